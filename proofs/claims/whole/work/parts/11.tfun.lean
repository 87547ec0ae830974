def fX0_with (N : Nat) (σ : St) (p0 : Int32) (p1 : Int32) : Option (Int64 × St) := if 0 ≤ p0 then if (6 : Int32) ≤ p0 then if ((p1 >>> ((p0 - (6 : Int32)) &&& 31)) &&& (1 : Int32)) = 0 then some ((0 : Int64), σ) else some ((-1 : Int64), σ) else grd (inB p0 6) (some (cWITH p0.toNatClampNeg, σ)) else some ((0 : Int64), σ)
def fX8_has (N : Nat) (σ : St) (p0 : Int32) (p1 : Int32) : Option (Int32 × St) := if ((p0 >>> (p1 &&& 31)) &&& (1 : Int32)) = 0 then grd (isZ (0 : Int32)) (some ((0 : Int32), σ)) else grd (isZ (1 : Int32)) (some ((1 : Int32), σ))
def fX0_withAll_34 (N : Nat) (k7 : St → Int32 → Int32 → Int64 → Int32 → Option (Int64 × St)) (σ : St) (x1 : Int32) (x2 : Int32) (x3 : Int64) (x5 : Int32) : Option (Int64 × St) := letS (x5 + (1 : Int32)) fun u8 => k7 σ x1 x2 x3 u8
def fX0_withAll_7 (N : Nat) : Nat → St → Int32 → Int32 → Int64 → Int32 → Option (Int64 × St)
  | 0, _, _, _, _, _ => none
  | n + 1, σ, x1, x2, x3, x5 => if (gI σ 53 0) ≤ x5 then some (x3, σ) else bnd (fX8_has N σ x1 x5) fun r3 σ2 => if r3 = 0 then fX0_withAll_34 N (fX0_withAll_7 N n) σ2 x1 x2 x3 x5 else bnd (fX0_with N σ2 x5 x2) fun r6 σ5 => letS (x3 &&& r6) fun u7 => fX0_withAll_34 N (fX0_withAll_7 N n) σ5 x1 x2 u7 x5
def fX0_withAll (N : Nat) (σ : St) (p0 : Int32) (p1 : Int32) : Option (Int64 × St) := fX0_withAll_7 N N σ p0 p1 (-1 : Int64) (0 : Int32)
def fX0_row (N : Nat) (σ : St) (p0 : Int32) (p1 : Int32) : Option (Int32 × St) := some (((p0 * (9 : Int32)) + p1) * (8 : Int32), σ)
def fX0_askedByRule_124 (N : Nat) (k11 : St → Nat → Int64 → Int32 → Int32 → Int64 → Int32 → Option (Int64 × St)) (σ : St) (n1 : Nat) (x2 : Int64) (x4 : Int32) (x5 : Int32) (x8 : Int32) (y0 : Int64) (y1 : Int64) : Option (Int64 × St) := letS (y1 &&& y0) fun u25 => letS (x8 + (1 : Int32)) fun u26 => k11 σ (n1) x2 x4 x5 u25 u26
def fX0_askedByRule_85 (N : Nat) (k11 : St → Nat → Int64 → Int32 → Int32 → Int64 → Int32 → Option (Int64 × St)) (σ : St) (n1 : Nat) (x2 : Int64) (x4 : Int32) (x5 : Int32) (x6 : Int64) (x8 : Int32) (x9 : Int64) : Option (Int64 × St) := bnd (fX0_row N σ x4 x8) fun r18 σ17 => grd (inB (r18 + x5) 576) (letS (sL σ17 51 (r18 + x5).toNatClampNeg x9) fun σ20 => grd (decide (n1 < 40)) (bnd (fX8_has N σ20 (gI σ20 37 (n1)) x8) fun r23 σ22 => if r23 = 0 then fX0_askedByRule_124 N k11 σ22 (n1) x2 x4 x5 x8 (-1 : Int64) x6 else fX0_askedByRule_124 N k11 σ22 (n1) x2 x4 x5 x8 x9 x6))
def fX0_askedByRule_82 (N : Nat) (k11 : St → Nat → Int64 → Int32 → Int32 → Int64 → Int32 → Option (Int64 × St)) (σ : St) (n1 : Nat) (x2 : Int64) (x4 : Int32) (x5 : Int32) (x6 : Int64) (x8 : Int32) (y0 : Int64) (y1 : Int64) : Option (Int64 × St) := letS (y1 &&& y0) fun u16 => fX0_askedByRule_85 N k11 σ (n1) x2 x4 x5 x6 x8 u16
def fX0_askedByRule_11 (N : Nat) : Nat → St → Nat → Int64 → Int32 → Int32 → Int64 → Int32 → Option (Int64 × St)
  | 0, _, _, _, _, _, _, _ => none
  | n + 1, σ, n1, x2, x4, x5, x6, x8 => grd (decide (n1 < 40)) (if (gI σ 36 (n1)) ≤ x8 then some (x6, σ) else grd (inB x8 9) (bnd (fX8_has N σ (gI σ 24 x8.toNatClampNeg) x4) fun r7 σ6 => if r7 = 0 then fX0_askedByRule_85 N (fX0_askedByRule_11 N n) σ6 (n1) x2 x4 x5 x6 x8 (-1 : Int64) else grd (inB x8 9) (bnd (fX0_withAll N σ6 (gI σ6 25 x8.toNatClampNeg) x5) fun r11 σ10 => grd (decide (n1 < 40)) (bnd (fX8_has N σ10 (gI σ10 38 (n1)) x8) fun r14 σ13 => if r14 = 0 then fX0_askedByRule_82 N (fX0_askedByRule_11 N n) σ13 (n1) x2 x4 x5 x6 x8 (-1 : Int64) r11 else fX0_askedByRule_82 N (fX0_askedByRule_11 N n) σ13 (n1) x2 x4 x5 x6 x8 x2 r11))))
def fX0_askedByRule (N : Nat) (σ : St) (p0 : Nat) (p1 : Int64) (p2 : Int32) (p3 : Int32) : Option (Int64 × St) := grd (decide (p0 < 40)) (letS (gI σ 35 (p0)) fun u2 => fX0_askedByRule_11 N N σ (p0) p1 p2 p3 (-1 : Int64) u2)
def fX0_askedByNode (N : Nat) (σ : St) (p0 : Nat) (p1 : Int32) (p2 : Int32) : Option (Int64 × St) := grd (decide (p0 < 40)) (if (gI σ 30 (p0)) = (38 : Int32) then grd (decide (p0 < 40)) (grd (inB (gI σ 31 (p0)) 40) (grd (decide (p0 < 40)) (grd (inB (gI σ 32 (p0)) 40) (some ((gL σ 52 (gI σ 31 (p0)).toNatClampNeg) &&& (gL σ 52 (gI σ 32 (p0)).toNatClampNeg), σ))))) else if (gI σ 30 (p0)) = (58 : Int32) then grd (decide (p0 < 40)) (grd (inB (gI σ 31 (p0)) 40) (grd (decide ((gI σ 31 (p0)).toNatClampNeg < 40)) (bnd (fX0_with N σ (gI σ 33 ((gI σ 31 (p0)).toNatClampNeg)) p2) fun r12 σ11 => bnd (fX0_askedByRule N σ11 (p0) r12 p1 p2) fun r14 σ13 => some (r14, σ13)))) else if (gI σ 30 (p0)) = (62 : Int32) then grd (decide (p0 < 40)) (grd (inB (gI σ 31 (p0)) 40) (bnd (fX0_askedByRule N σ (p0) (gL σ 52 (gI σ 31 (p0)).toNatClampNeg) p1 p2) fun r19 σ18 => some (r19, σ18))) else if (gI σ 30 (p0)) = (71 : Int32) then grd (decide (p0 < 40)) (grd (inB (gI σ 31 (p0)) 40) (grd (decide (p0 < 40)) (bnd (fX0_with N σ (gI σ 33 (p0)) p2) fun r25 σ24 => some ((gL σ 52 (gI σ 31 (p0)).toNatClampNeg) &&& r25, σ24)))) else if (gI σ 30 (p0)) = (87 : Int32) then grd (decide (p0 < 40)) (grd (inB (gI σ 32 (p0)) 40) (grd (decide (p0 < 40)) (grd (inB (gI σ 31 (p0)) 40) (grd (decide (p0 < 40)) (bnd (fX0_with N σ (gI σ 33 (p0)) p2) fun r33 σ32 => some ((gL σ 52 (gI σ 32 (p0)).toNatClampNeg) ||| ((gL σ 52 (gI σ 31 (p0)).toNatClampNeg) &&& r33), σ32)))))) else if (gI σ 30 (p0)) = (88 : Int32) then grd (decide (p0 < 40)) (grd (inB (gI σ 31 (p0)) 40) (grd (decide ((gI σ 31 (p0)).toNatClampNeg < 40)) (bnd (fX0_with N σ (gI σ 33 ((gI σ 31 (p0)).toNatClampNeg)) p2) fun r39 σ38 => some (r39, σ38)))) else if (gI σ 30 (p0)) = (124 : Int32) then grd (decide (p0 < 40)) (grd (inB (gI σ 31 (p0)) 40) (grd (decide (p0 < 40)) (grd (inB (gI σ 32 (p0)) 40) (some ((gL σ 52 (gI σ 31 (p0)).toNatClampNeg) ||| (gL σ 52 (gI σ 32 (p0)).toNatClampNeg), σ))))) else grd (decide (p0 < 40)) (bnd (fX8_has N σ (gI σ 34 (p0)) p1) fun r47 σ46 => if r47 = 0 then some ((0 : Int64), σ46) else some ((-1 : Int64), σ46)))
def fX0_fillWord_69 (N : Nat) (k2 : St → Int32 → Int32 → Int32 → Option St) (σ : St) (x1 : Int32) (x2 : Int32) (x3 : Int32) : Option St := letS (x3 + (1 : Int32)) fun u16 => k2 σ x1 x2 u16
def fX0_fillWord_2 (N : Nat) : Nat → St → Int32 → Int32 → Int32 → Option St
  | 0, _, _, _, _ => none
  | n + 1, σ, x1, x2, x3 => if (gI σ 21 0) ≤ x3 then some σ else grd (inB x3 40) (letS (x3.toNatClampNeg) fun w3 => bnd (fX0_askedByNode N σ (w3) x1 x2) fun r5 σ4 => grd (inB x3 40) (letS (sL σ4 52 x3.toNatClampNeg r5) fun σ7 => grd (decide (w3 < 40)) (if (gI σ7 33 (w3)) = (-1 : Int32) then fX0_fillWord_69 N (fX0_fillWord_2 N n) σ7 x1 x2 x3 else grd (decide (w3 < 40)) (bnd (fX0_row N σ7 x1 (gI σ7 33 (w3))) fun r12 σ11 => grd (inB x3 40) (grd (inB (r12 + x2) 576) (letS (sL σ11 51 (r12 + x2).toNatClampNeg (gL σ11 52 x3.toNatClampNeg)) fun σ15 => fX0_fillWord_69 N (fX0_fillWord_2 N n) σ15 x1 x2 x3))))))
def fX0_fillWord (N : Nat) (σ : St) (p0 : Int32) (p1 : Int32) : Option St := fX0_fillWord_2 N N σ p0 p1 (0 : Int32)
def fX0_fill_47 (N : Nat) (k39 : St → Int32 → Option St) : Nat → St → Int32 → Int32 → Option St
  | 0, _, _, _ => none
  | n + 1, σ, x1, x2 => if (gI σ 54 0) ≤ x2 then letS (x1 + (1 : Int32)) fun u6 => k39 σ u6 else bnd1 (fX0_fillWord N σ x1 x2) fun σ7 => letS (x2 + (1 : Int32)) fun u8 => fX0_fill_47 N k39 n σ7 x1 u8
def fX0_fill_39 (N : Nat) : Nat → St → Int32 → Option St
  | 0, _, _ => none
  | n + 1, σ, x1 => if (8 : Int32) ≤ x1 then some σ else fX0_fill_47 N (fX0_fill_39 N n) N σ x1 (0 : Int32)
def fX0_fill_34 (N : Nat) (σ : St) (y0 : Int32) : Option St := letS (sI σ 54 0 y0) fun σ3 => fX0_fill_39 N N σ3 (0 : Int32)
def fX0_fill (N : Nat) (σ : St) : Option St := letS (sI σ 53 0 (gI σ 22 0)) fun σ1 => if (6 : Int32) < (gI σ1 53 0) then fX0_fill_34 N σ1 ((1 : Int32) <<< (((gI σ1 53 0) - (6 : Int32)) &&& 31)) else fX0_fill_34 N σ1 (1 : Int32)
def fX0_askedByAll_51 (N : Nat) (k8 : St → Int32 → Int32 → Int32 → Int64 → Int32 → Option (Int64 × St)) (σ : St) (x1 : Int32) (x2 : Int32) (x3 : Int32) (x4 : Int64) (x6 : Int32) : Option (Int64 × St) := letS (x6 + (1 : Int32)) fun u10 => k8 σ x1 x2 x3 x4 u10
def fX0_askedByAll_57 (N : Nat) (σ : St) (x4 : Int64) : Option (Int64 × St) := some (x4, σ)
def fX0_askedByAll_8 (N : Nat) : Nat → St → Int32 → Int32 → Int32 → Int64 → Int32 → Option (Int64 × St)
  | 0, _, _, _, _, _, _ => none
  | n + 1, σ, x1, x2, x3, x4, x6 => if (gI σ 53 0) ≤ x6 then fX0_askedByAll_57 N σ x4 else if (lg_cmp x4 (0 : Int64)) = 0 then fX0_askedByAll_57 N σ x4 else bnd (fX8_has N σ x1 x6) fun r4 σ3 => if r4 = 0 then fX0_askedByAll_51 N (fX0_askedByAll_8 N n) σ3 x1 x2 x3 x4 x6 else bnd (fX0_row N σ3 x2 x6) fun r7 σ6 => grd (inB (r7 + x3) 576) (letS (x4 &&& (gL σ6 51 (r7 + x3).toNatClampNeg)) fun u9 => fX0_askedByAll_51 N (fX0_askedByAll_8 N n) σ6 x1 x2 x3 u9 x6)
def fX0_askedByAll (N : Nat) (σ : St) (p0 : Int32) (p1 : Int32) (p2 : Int32) : Option (Int64 × St) := fX0_askedByAll_8 N N σ p0 p1 p2 (-1 : Int64) (0 : Int32)
def fX1_clear (N : Nat) (σ : St) : Option St := letS (sI σ 21 0 (0 : Int32)) fun σ1 => letS (sI σ1 22 0 (0 : Int32)) fun σ2 => grd (isZ (1 : Int32)) (letS (sI σ2 23 0 (1 : Int32)) fun σ3 => some σ3)
def fX1_add (N : Nat) (σ : St) (p0 : Int32) (p1 : Int32) (p2 : Int32) : Option (Int32 × St) := if (gI σ 21 0) < (40 : Int32) then grd (inB (gI σ 21 0) 40) (letS ((gI σ 21 0).toNatClampNeg) fun w3 => grd (decide (w3 < 40)) (grd (isK p0) (letS (sI σ 30 (w3) p0) fun σ4 => grd (decide (w3 < 40)) (letS (sI σ4 31 (w3) p1) fun σ7 => grd (decide (w3 < 40)) (letS (sI σ7 32 (w3) p2) fun σ9 => grd (decide (w3 < 40)) (letS (sI σ9 33 (w3) (-1 : Int32)) fun σ11 => letS (sI σ11 21 0 ((gI σ11 21 0) + (1 : Int32))) fun σ13 => some ((gI σ13 21 0) - (1 : Int32), σ13))))))) else grd (isZ (0 : Int32)) (letS (sI σ 23 0 (0 : Int32)) fun σ14 => some ((0 : Int32), σ14))
def fX1_addBoolean (N : Nat) (σ : St) (p0 : Int32) : Option (Int32 × St) := bnd (fX1_add N σ (33 : Int32) (-1 : Int32) (-1 : Int32)) fun r2 σ1 => grd (inB r2 40) (grd (decide (r2.toNatClampNeg < 40)) (letS (sI σ1 34 (r2.toNatClampNeg) p0) fun σ4 => some (r2, σ4)))
def fX1_newObligation (N : Nat) (σ : St) : Option (Int32 × St) := if (gI σ 22 0) < (9 : Int32) then letS (sI σ 22 0 ((gI σ 22 0) + (1 : Int32))) fun σ2 => some ((gI σ2 22 0) - (1 : Int32), σ2) else grd (isZ (0 : Int32)) (letS (sI σ 23 0 (0 : Int32)) fun σ3 => some ((-1 : Int32), σ3))
def fX1_oblige (N : Nat) (σ : St) (p0 : Int32) : Option St := grd (inB p0 40) (grd (decide (p0.toNatClampNeg < 40)) (if (gI σ 33 (p0.toNatClampNeg)) = (-1 : Int32) then grd (inB p0 40) (bnd (fX1_newObligation N σ) fun r6 σ5 => grd (decide (p0.toNatClampNeg < 40)) (letS (sI σ5 33 (p0.toNatClampNeg) r6) fun σ7 => some σ7)) else some σ))
def fX1_addPlace (N : Nat) (σ : St) (p0 : Int32) : Option (Int32 × St) := bnd (fX1_newObligation N σ) fun r2 σ1 => if r2 = (-1 : Int32) then some ((0 : Int32), σ1) else grd (inB r2 9) (letS (sI σ1 24 r2.toNatClampNeg p0) fun σ5 => grd (inB r2 9) (letS (sI σ5 25 r2.toNatClampNeg (0 : Int32)) fun σ7 => some ((1 : Int32) <<< (r2 &&& 31), σ7)))
def fX1_link_28 (N : Nat) (k2 : St → Int32 → Int32 → Int32 → Option St) (σ : St) (x1 : Int32) (x2 : Int32) (x3 : Int32) : Option St := letS (x3 + (1 : Int32)) fun u8 => k2 σ x1 x2 u8
def fX1_link_2 (N : Nat) : Nat → St → Int32 → Int32 → Int32 → Option St
  | 0, _, _, _, _ => none
  | n + 1, σ, x1, x2, x3 => if (gI σ 22 0) ≤ x3 then some σ else bnd (fX8_has N σ x1 x3) fun r3 σ2 => if r3 = 0 then fX1_link_28 N (fX1_link_2 N n) σ2 x1 x2 x3 else grd (inB x3 9) (grd (inB x3 9) (letS (sI σ2 25 x3.toNatClampNeg ((gI σ2 25 x3.toNatClampNeg) ||| x2)) fun σ7 => fX1_link_28 N (fX1_link_2 N n) σ7 x1 x2 x3))
def fX1_link (N : Nat) (σ : St) (p0 : Int32) (p1 : Int32) : Option St := fX1_link_2 N N σ p0 p1 (0 : Int32)
def fX1_copyPlaces_48 (N : Nat) (k33 : St → Int32 → Int32 → Int32 → Int32 → Option St) : Nat → St → Int32 → Int32 → Int32 → Int32 → Int32 → Int32 → Option St
  | 0, _, _, _, _, _, _, _ => none
  | n + 1, σ, x1, x2, x3, x4, x5, x6 => if (x1 + x3) ≤ x6 then letS (x4 + (1 : Int32)) fun u10 => k33 σ x1 x2 x3 u10 else grd (inB x6 9) (grd (inB (x6 + x5) 9) (letS (sI σ 24 (x6 + x5).toNatClampNeg (gI σ 24 x6.toNatClampNeg)) fun σ13 => grd (inB x6 9) (grd (inB (x6 + x5) 9) (letS (sI σ13 25 (x6 + x5).toNatClampNeg ((gI σ13 25 x6.toNatClampNeg) <<< (x5 &&& 31))) fun σ16 => letS (x6 + (1 : Int32)) fun u17 => fX1_copyPlaces_48 N k33 n σ16 x1 x2 x3 x4 x5 u17))))
def fX1_copyPlaces_33 (N : Nat) : Nat → St → Int32 → Int32 → Int32 → Int32 → Option St
  | 0, _, _, _, _, _ => none
  | n + 1, σ, x1, x2, x3, x4 => if x2 ≤ x4 then letS (sI σ 22 0 (x1 + (x3 * x2))) fun σ7 => some σ7 else letS (x4 * x3) fun u8 => fX1_copyPlaces_48 N (fX1_copyPlaces_33 N n) N σ x1 x2 x3 x4 u8 x1
def fX1_copyPlaces_22 (N : Nat) (σ : St) (x1 : Int32) (x2 : Int32) (x3 : Int32) : Option St := if (gI σ 23 0) = 0 then some σ else fX1_copyPlaces_33 N N σ x1 x2 x3 (1 : Int32)
def fX1_copyPlaces (N : Nat) (σ : St) (p0 : Int32) (p1 : Int32) : Option St := letS ((gI σ 22 0) - p0) fun u1 => if (p0 + (u1 * p1)) ≤ (9 : Int32) then fX1_copyPlaces_22 N σ p0 p1 u1 else grd (isZ (0 : Int32)) (letS (sI σ 23 0 (0 : Int32)) fun σ3 => fX1_copyPlaces_22 N σ3 p0 p1 u1)
def fX1_wholeObligation (N : Nat) (σ : St) : Option (Int32 × St) := if (gI σ 21 0) ≤ 0 then some ((-1 : Int32), σ) else grd (inB ((gI σ 21 0) - (1 : Int32)) 40) (grd (decide (((gI σ 21 0) - (1 : Int32)).toNatClampNeg < 40)) (some (gI σ 33 (((gI σ 21 0) - (1 : Int32)).toNatClampNeg), σ)))
def fX2_renew_33 (N : Nat) (k7 : St → Int32 → Option St) (σ : St) (x1 : Int32) : Option St := letS (x1 + (1 : Int32)) fun u6 => k7 σ u6
def fX2_renew_7 (N : Nat) : Nat → St → Int32 → Option St
  | 0, _, _ => none
  | n + 1, σ, x1 => if (6 : Int32) < x1 then letS (sI σ 82 0 (-1 : Int32)) fun σ3 => some σ3 else if (gI σ 71 0) < ((1 : Int32) <<< ((x1 - (1 : Int32)) &&& 31)) then fX2_renew_33 N (fX2_renew_7 N n) σ x1 else letS (sI σ 81 0 x1) fun σ5 => fX2_renew_33 N (fX2_renew_7 N n) σ5 x1
def fX2_renew (N : Nat) (σ : St) : Option St := letS (sI σ 81 0 (1 : Int32)) fun σ1 => fX2_renew_7 N N σ1 (2 : Int32)
def fX2_codes (N : Nat) (σ : St) : Option (Int32 × St) := some ((1 : Int32) <<< ((gI σ 81 0) &&& 31), σ)
def fX4_after_12 (N : Nat) (σ : St) : Option (Int32 × St) := some ((-1 : Int32), σ)
def fX4_after (N : Nat) (σ : St) (p0 : Int32) (p1 : Int32) : Option (Int32 × St) := if p0 < 0 then fX4_after_12 N σ else if p0 < (gI σ 71 0) then grd (inB ((p0 * (8 : Int32)) + p1) 320) (some (gI σ 72 ((p0 * (8 : Int32)) + p1).toNatClampNeg, σ)) else fX4_after_12 N σ
def fX2_isOn_41 (N : Nat) (σ : St) (x1 : Int32) (x5 : Int32) (y0 : Int32) : Option (Int32 × St) := if x1 = (gI σ 81 0) then grd (isZ x5) (some (x5, σ)) else bnd (fX8_has N σ y0 x1) fun r7 σ6 => grd (isZ r7) (some (r7, σ6))
def fX2_isOn_22 (N : Nat) (σ : St) (x1 : Int32) (x4 : Int32) (y0 : Int32) : Option (Int32 × St) := if y0 = 0 then fX2_isOn_41 N σ x1 y0 x4 else fX2_isOn_41 N σ x1 y0 (gI σ 71 0)
def fX2_isOn (N : Nat) (σ : St) (p0 : Int32) (p1 : Int32) (p2 : Int32) : Option (Int32 × St) := bnd (fX4_after N σ p1 p2) fun r2 σ1 => if r2 = (-1 : Int32) then fX2_isOn_22 N σ1 p0 r2 (1 : Int32) else fX2_isOn_22 N σ1 p0 r2 (0 : Int32)
def fX2_fillCells_69 (N : Nat) (k4 : St → Int32 → Int32 → Option (Int32 × St)) (k14 : St → Int32 → Int32 → Int32 → Option (Int32 × St)) (k38 : St → Int32 → Int32 → Int32 → Int32 → Int32 → Option (Int32 × St)) (σ : St) (x1 : Int32) (x2 : Int32) (x3 : Int32) (x4 : Int32) (x5 : Int32) (y0 : Int32) (y1 : Int32) : Option (Int32 × St) := grd (inB y1 3584) (letS (sI σ 83 y1.toNatClampNeg y0) fun σ13 => letS (x1 + (1 : Int32)) fun u14 => letS (x5 + (1 : Int32)) fun u15 => k38 σ13 u14 x2 x3 x4 u15)
def fX2_fillCells_38 (N : Nat) (k4 : St → Int32 → Int32 → Option (Int32 × St)) (k14 : St → Int32 → Int32 → Int32 → Option (Int32 × St)) : Nat → St → Int32 → Int32 → Int32 → Int32 → Int32 → Option (Int32 × St)
  | 0, _, _, _, _, _, _ => none
  | n + 1, σ, x1, x2, x3, x4, x5 => bnd (fX2_codes N σ) fun r6 σ5 => if r6 ≤ x5 then letS (x3 + (1 : Int32)) fun u8 => k14 σ5 x1 x2 u8 else bnd (fX2_isOn N σ5 x2 x5 x4) fun r10 σ9 => if r10 = 0 then fX2_fillCells_69 N k4 k14 (fX2_fillCells_38 N k4 k14 n) σ9 x1 x2 x3 x4 x5 (0 : Int32) x1 else fX2_fillCells_69 N k4 k14 (fX2_fillCells_38 N k4 k14 n) σ9 x1 x2 x3 x4 x5 (1 : Int32) x1
def fX2_fillCells_14 (N : Nat) (k4 : St → Int32 → Int32 → Option (Int32 × St)) : Nat → St → Int32 → Int32 → Int32 → Option (Int32 × St)
  | 0, _, _, _, _ => none
  | n + 1, σ, x1, x2, x3 => if (8 : Int32) ≤ x3 then letS (x2 + (1 : Int32)) fun u3 => k4 σ x1 u3 else letS ((((x3 &&& (1 : Int32)) <<< ((2 : Int32) &&& 31)) ||| (x3 &&& (2 : Int32))) ||| (x3 >>> ((2 : Int32) &&& 31))) fun u4 => fX2_fillCells_38 N k4 (fX2_fillCells_14 N k4 n) N σ x1 x2 x3 u4 (0 : Int32)
def fX2_fillCells_4 (N : Nat) : Nat → St → Int32 → Int32 → Option (Int32 × St)
  | 0, _, _, _ => none
  | n + 1, σ, x1, x2 => if (gI σ 81 0) < x2 then some (x1, σ) else fX2_fillCells_14 N (fX2_fillCells_4 N n) N σ x1 x2 (0 : Int32)
def fX2_fillCells (N : Nat) (σ : St) : Option (Int32 × St) := fX2_fillCells_4 N N σ (0 : Int32) (0 : Int32)
def fX2_join_19 (N : Nat) : Nat → St → Int32 → Int32 → Int32 → Option (Int32 × St)
  | 0, _, _, _, _ => none
  | n + 1, σ, x3, x4, x5 => if (gI σ 85 0) ≤ x5 then grd (inB (gI σ 85 0) 1792) (letS (sI σ 84 (gI σ 85 0).toNatClampNeg x4) fun σ5 => letS (sI σ5 85 0 ((gI σ5 85 0) + (1 : Int32))) fun σ6 => some ((x3 + (gI σ6 85 0)) - (1 : Int32), σ6)) else grd (inB x5 1792) (if (gI σ 84 x5.toNatClampNeg) = x4 then some (x3 + x5, σ) else letS (x5 + (1 : Int32)) fun u9 => fX2_join_19 N n σ x3 x4 u9)
def fX2_join (N : Nat) (σ : St) (p0 : Int32) (p1 : Int32) (p2 : Int32) : Option (Int32 × St) := if p0 = p1 then some (p0, σ) else letS ((p0 * (7168 : Int32)) + p1) fun u2 => fX2_join_19 N N σ p2 u2 (0 : Int32)
def fX2_countGates_35 (N : Nat) (k17 : St → Int32 → Int32 → Int32 → Int32 → Option (Int32 × St)) : Nat → St → Int32 → Int32 → Int32 → Int32 → Int32 → Option (Int32 × St)
  | 0, _, _, _, _, _, _ => none
  | n + 1, σ, x1, x2, x3, x4, x5 => if x2 ≤ x5 then letS (x3 + (gI σ 85 0)) fun u9 => letS (x4 + (1 : Int32)) fun u10 => k17 σ x1 x2 u9 u10 else grd (inB ((2 : Int32) * x5) 3584) (grd (inB (((2 : Int32) * x5) + (1 : Int32)) 3584) (bnd (fX2_join N σ (gI σ 83 ((2 : Int32) * x5).toNatClampNeg) (gI σ 83 (((2 : Int32) * x5) + (1 : Int32)).toNatClampNeg) (x3 + (2 : Int32))) fun r14 σ13 => grd (inB x5 3584) (letS (sI σ13 83 x5.toNatClampNeg r14) fun σ16 => letS (x5 + (1 : Int32)) fun u17 => fX2_countGates_35 N k17 n σ16 x1 x2 x3 x4 u17)))
def fX2_countGates_17 (N : Nat) : Nat → St → Int32 → Int32 → Int32 → Int32 → Option (Int32 × St)
  | 0, _, _, _, _, _ => none
  | n + 1, σ, x1, x2, x3, x4 => if x1 ≤ x4 then some (x3, σ) else letS (sI σ 85 0 (0 : Int32)) fun σ5 => grd (nz (2 : Int32)) (letS (x2 / (2 : Int32)) fun u7 => fX2_countGates_35 N (fX2_countGates_17 N n) N σ5 x1 u7 x3 x4 (0 : Int32))
def fX2_countGates (N : Nat) (σ : St) : Option (Int32 × St) := letS ((3 : Int32) + (gI σ 81 0)) fun u1 => bnd (fX2_fillCells N σ) fun r3 σ2 => fX2_countGates_17 N N σ2 u1 r3 (0 : Int32) (0 : Int32)
def fX2_gates_16 (N : Nat) (σ : St) : Option (Int32 × St) := some (gI σ 82 0, σ)
def fX2_gates (N : Nat) (σ : St) : Option (Int32 × St) := if (gI σ 82 0) = (-1 : Int32) then bnd (fX2_countGates N σ) fun r3 σ2 => letS (sI σ2 82 0 r3) fun σ4 => fX2_gates_16 N σ4 else fX2_gates_16 N σ
def fX3_leastIn_85 (N : Nat) (k53 : St → Int32 → Int32 → Int64 → Int64 → Int32 → Option (Int64 × St)) (σ : St) (x1 : Int32) (x2 : Int32) (x3 : Int64) (x5 : Int64) (x7 : Int32) : Option (Int64 × St) := letS (x7 <<< ((1 : Int32) &&& 31)) fun u11 => k53 σ x1 x2 x3 x5 u11
def fX3_leastIn_53 (N : Nat) : Nat → St → Int32 → Int32 → Int64 → Int64 → Int32 → Option (Int64 × St)
  | 0, _, _, _, _, _, _ => none
  | n + 1, σ, x1, x2, x3, x5, x7 => if (gI σ 65 0) ≤ x7 then some (x3 &&& (x5 ^^^ (-1 : Int64)), σ) else if (x2 &&& x7) = 0 then fX3_leastIn_85 N (fX3_leastIn_53 N n) σ x1 x2 x3 x5 x7 else grd (inB ((x1 + x2) - x7) 328) (letS (x5 ||| (gL σ 61 ((x1 + x2) - x7).toNatClampNeg)) fun u10 => fX3_leastIn_85 N (fX3_leastIn_53 N n) σ x1 x2 x3 u10 x7)
def fX3_leastIn_15 (N : Nat) : Nat → St → Int32 → Int32 → Int64 → Int64 → Int32 → Option (Int64 × St)
  | 0, _, _, _, _, _, _ => none
  | n + 1, σ, x1, x2, x3, x5, x7 => if (6 : Int32) ≤ x7 then fX3_leastIn_53 N N σ x1 x2 x3 x5 (1 : Int32) else grd (inB x7 6) (letS (x5 ||| ((x3 &&& ((cWITH x7.toNatClampNeg) ^^^ (-1 : Int64))) <<< (((1 : Int32) <<< (x7 &&& 31)).toInt64 &&& 63))) fun u5 => letS (x7 + (1 : Int32)) fun u6 => fX3_leastIn_15 N n σ x1 x2 x3 u5 u6)
def fX3_leastIn (N : Nat) (σ : St) (p0 : Int32) (p1 : Int32) : Option (Int64 × St) := grd (inB (p0 + p1) 328) (letS (gL σ 61 (p0 + p1).toNatClampNeg) fun u2 => fX3_leastIn_15 N N σ p0 p1 u2 (0 : Int64) (0 : Int32))
def fX3_findLeastSets_81 (N : Nat) (k7 : St → Int32 → Int32 → Option St) (k28 : St → Int32 → Int32 → Int64 → Int32 → Option St) (σ : St) (x1 : Int32) (x2 : Int32) (x3 : Int64) (x5 : Int32) : Option St := letS (x5 + (1 : Int32)) fun u11 => k28 σ x1 x2 x3 u11
def fX3_findLeastSets_87 (N : Nat) (k7 : St → Int32 → Int32 → Option St) (σ : St) (x1 : Int32) (x2 : Int32) : Option St := letS (x2 + (1 : Int32)) fun u12 => k7 σ x1 u12
def fX3_findLeastSets_28 (N : Nat) (k7 : St → Int32 → Int32 → Option St) : Nat → St → Int32 → Int32 → Int64 → Int32 → Option St
  | 0, _, _, _, _, _ => none
  | n + 1, σ, x1, x2, x3, x5 => if (64 : Int32) ≤ x5 then fX3_findLeastSets_87 N k7 σ x1 x2 else if (lg_cmp ((x3.toUInt64 >>> (x5.toInt64.toUInt64 &&& Int64.toUInt64 63)).toInt64) (0 : Int64)) = 0 then fX3_findLeastSets_87 N k7 σ x1 x2 else if (lg_cmp (((x3.toUInt64 >>> (x5.toInt64.toUInt64 &&& Int64.toUInt64 63)).toInt64) &&& (1 : Int64)) (0 : Int64)) = 0 then fX3_findLeastSets_81 N k7 (fX3_findLeastSets_28 N k7 n) σ x1 x2 x3 x5 else grd (inB (gI σ 64 0) 512) (letS (sI σ 63 (gI σ 64 0).toNatClampNeg ((x2 <<< ((6 : Int32) &&& 31)) ||| x5)) fun σ9 => letS (sI σ9 64 0 ((gI σ9 64 0) + (1 : Int32))) fun σ10 => fX3_findLeastSets_81 N k7 (fX3_findLeastSets_28 N k7 n) σ10 x1 x2 x3 x5)
def fX3_findLeastSets_7 (N : Nat) : Nat → St → Int32 → Int32 → Option St
  | 0, _, _, _ => none
  | n + 1, σ, x1, x2 => if (gI σ 65 0) ≤ x2 then some σ else bnd (fX3_leastIn N σ (x1 * (8 : Int32)) x2) fun r4 σ3 => fX3_findLeastSets_28 N (fX3_findLeastSets_7 N n) N σ3 x1 x2 r4 (0 : Int32)
def fX3_findLeastSets (N : Nat) (σ : St) (p0 : Int32) : Option St := letS (sI σ 64 0 (0 : Int32)) fun σ1 => fX3_findLeastSets_7 N N σ1 p0 (0 : Int32)
def fX3_putIn_69 (N : Nat) (k10 : St → Int32 → Int32 → Int32 → Option St) (σ : St) (x1 : Int32) (x2 : Int32) (x3 : Int32) (x4 : Int64) : Option St := grd (inB (x2 + x3) 328) (letS (sL σ 61 (x2 + x3).toNatClampNeg x4) fun σ11 => letS (x3 + (1 : Int32)) fun u12 => k10 σ11 x1 x2 u12)
def fX3_putIn_24 (N : Nat) (k10 : St → Int32 → Int32 → Int32 → Option St) : Nat → St → Int32 → Int32 → Int32 → Int64 → Int32 → Option St
  | 0, _, _, _, _, _, _ => none
  | n + 1, σ, x1, x2, x3, x4, x6 => if (gI σ 64 0) ≤ x6 then fX3_putIn_69 N k10 σ x1 x2 x3 x4 else if (lg_cmp x4 (-1 : Int64)) = 0 then fX3_putIn_69 N k10 σ x1 x2 x3 x4 else grd (inB x6 512) (bnd (fX0_askedByAll N σ (gI σ 63 x6.toNatClampNeg) x1 x3) fun r7 σ6 => letS (x4 ||| r7) fun u8 => letS (x6 + (1 : Int32)) fun u9 => fX3_putIn_24 N k10 n σ6 x1 x2 x3 u8 u9)
def fX3_putIn_10 (N : Nat) : Nat → St → Int32 → Int32 → Int32 → Option St
  | 0, _, _, _, _ => none
  | n + 1, σ, x1, x2, x3 => if (gI σ 65 0) ≤ x3 then some σ else fX3_putIn_24 N (fX3_putIn_10 N n) N σ x1 x2 x3 (0 : Int64) (0 : Int32)
def fX3_putIn (N : Nat) (σ : St) (p0 : Int32) : Option St := letS ((gI σ 66 0) * (8 : Int32)) fun u1 => fX3_putIn_10 N N σ p0 u1 (0 : Int32)
def fX3_isSame_2 (N : Nat) : Nat → St → Int32 → Int32 → Int32 → Option (Int32 × St)
  | 0, _, _, _, _ => none
  | n + 1, σ, x1, x2, x3 => if (gI σ 65 0) ≤ x3 then grd (isZ (1 : Int32)) (some ((1 : Int32), σ)) else grd (inB ((x1 * (8 : Int32)) + x3) 328) (grd (inB ((x2 * (8 : Int32)) + x3) 328) (if (lg_cmp (gL σ 61 ((x1 * (8 : Int32)) + x3).toNatClampNeg) (gL σ 61 ((x2 * (8 : Int32)) + x3).toNatClampNeg)) = 0 then letS (x3 + (1 : Int32)) fun u5 => fX3_isSame_2 N n σ x1 x2 u5 else grd (isZ (0 : Int32)) (some ((0 : Int32), σ))))
def fX3_isSame (N : Nat) (σ : St) (p0 : Int32) (p1 : Int32) : Option (Int32 × St) := fX3_isSame_2 N N σ p0 p1 (0 : Int32)
def fX3_find_2 (N : Nat) : Nat → St → Int32 → Option (Int32 × St)
  | 0, _, _ => none
  | n + 1, σ, x1 => if (gI σ 66 0) ≤ x1 then some (gI σ 66 0, σ) else bnd (fX3_isSame N σ x1 (gI σ 66 0)) fun r3 σ2 => if r3 = 0 then letS (x1 + (1 : Int32)) fun u5 => fX3_find_2 N n σ2 u5 else some (x1, σ2)
def fX3_find (N : Nat) (σ : St) : Option (Int32 × St) := fX3_find_2 N N σ (0 : Int32)
def fX3_explore_66 (N : Nat) (k45 : St → Int32 → Option (Int32 × St)) : Nat → St → Int32 → Int32 → Option (Int32 × St)
  | 0, _, _, _ => none
  | n + 1, σ, x2, x3 => if (8 : Int32) ≤ x3 then letS (x2 + (1 : Int32)) fun u13 => k45 σ u13 else bnd1 (fX3_putIn N σ x3) fun σ14 => bnd (fX3_find N σ14) fun r16 σ15 => if r16 < (40 : Int32) then grd (inB ((x2 * (8 : Int32)) + x3) 320) (letS (sI σ15 62 ((x2 * (8 : Int32)) + x3).toNatClampNeg r16) fun σ19 => letS (sI σ19 66 0 (if (gI σ19 66 0) < (r16 + (1 : Int32)) then (r16 + (1 : Int32)) else (gI σ19 66 0))) fun σ20 => letS (x3 + (1 : Int32)) fun u21 => fX3_explore_66 N k45 n σ20 x2 u21) else grd (isZ (0 : Int32)) (some ((0 : Int32), σ15))
def fX3_explore_132 (N : Nat) (σ : St) : Option (Int32 × St) := grd (isZ (1 : Int32)) (some ((1 : Int32), σ))
def fX3_explore_45 (N : Nat) : Nat → St → Int32 → Option (Int32 × St)
  | 0, _, _ => none
  | n + 1, σ, x2 => if (gI σ 66 0) ≤ x2 then fX3_explore_132 N σ else if (40 : Int32) ≤ x2 then fX3_explore_132 N σ else bnd1 (fX3_findLeastSets N σ x2) fun σ11 => fX3_explore_66 N (fX3_explore_45 N n) N σ11 x2 (0 : Int32)
def fX3_explore_18 (N : Nat) : Nat → St → Int32 → Int32 → Option (Int32 × St)
  | 0, _, _, _ => none
  | n + 1, σ, x1, x2 => if (gI σ 65 0) ≤ x2 then fX3_explore_45 N N σ (0 : Int32) else bnd (fX0_with N σ x1 x2) fun r5 σ4 => grd (inB x2 328) (letS (sL σ4 61 x2.toNatClampNeg r5) fun σ7 => letS (x2 + (1 : Int32)) fun u8 => fX3_explore_18 N n σ7 x1 u8)
def fX3_explore (N : Nat) (σ : St) (p0 : Int32) : Option (Int32 × St) := letS (sI σ 65 0 (gI σ 54 0)) fun σ1 => letS (sI σ1 66 0 (1 : Int32)) fun σ2 => fX3_explore_18 N N σ2 p0 (0 : Int32)
def fX3_lead (N : Nat) (σ : St) (p0 : Int32) (p1 : Int32) : Option (Int32 × St) := grd (inB ((p0 * (8 : Int32)) + p1) 320) (some (gI σ 62 ((p0 * (8 : Int32)) + p1).toNatClampNeg, σ))
def fX3_isNever_2 (N : Nat) : Nat → St → Int32 → Int32 → Option (Int32 × St)
  | 0, _, _, _ => none
  | n + 1, σ, x1, x2 => if (gI σ 65 0) ≤ x2 then grd (isZ (1 : Int32)) (some ((1 : Int32), σ)) else grd (inB ((x1 * (8 : Int32)) + x2) 328) (if (lg_cmp (gL σ 61 ((x1 * (8 : Int32)) + x2).toNatClampNeg) (0 : Int64)) = 0 then letS (x2 + (1 : Int32)) fun u4 => fX3_isNever_2 N n σ x1 u4 else grd (isZ (0 : Int32)) (some ((0 : Int32), σ)))
def fX3_isNever (N : Nat) (σ : St) (p0 : Int32) : Option (Int32 × St) := fX3_isNever_2 N N σ p0 (0 : Int32)
def fX4_firstState (N : Nat) (σ : St) : Option (Int32 × St) := if (gI σ 71 0) ≤ 0 then some ((-1 : Int32), σ) else some ((0 : Int32), σ)
def fX4_leadsToFailingOnly_2 (N : Nat) : Nat → St → Int32 → Int32 → Option (Int32 × St)
  | 0, _, _, _ => none
  | n + 1, σ, x1, x2 => if (8 : Int32) ≤ x2 then grd (isZ (1 : Int32)) (some ((1 : Int32), σ)) else bnd (fX3_lead N σ x1 x2) fun r3 σ2 => grd (inB r3 40) (if (gI σ2 73 r3.toNatClampNeg) = 0 then grd (isZ (0 : Int32)) (some ((0 : Int32), σ2)) else letS (x2 + (1 : Int32)) fun u6 => fX4_leadsToFailingOnly_2 N n σ2 x1 u6)
def fX4_leadsToFailingOnly (N : Nat) (σ : St) (p0 : Int32) : Option (Int32 × St) := fX4_leadsToFailingOnly_2 N N σ p0 (0 : Int32)
def fX4_markFailing_88 (N : Nat) (k37 : St → Int32 → Int32 → Option St) (k51 : St → Int32 → Int32 → Int32 → Option St) (σ : St) (x1 : Int32) (x2 : Int32) (x3 : Int32) : Option St := letS (x3 + (1 : Int32)) fun u18 => k51 σ x1 x2 u18
def fX4_markFailing_51 (N : Nat) (k37 : St → Int32 → Int32 → Option St) : Nat → St → Int32 → Int32 → Int32 → Option St
  | 0, _, _, _, _ => none
  | n + 1, σ, x1, x2, x3 => if (gI σ 66 0) ≤ x3 then letS (x2 + (1 : Int32)) fun u10 => k37 σ x1 u10 else grd (inB x3 40) (if (gI σ 73 x3.toNatClampNeg) = 0 then bnd (fX4_leadsToFailingOnly N σ x3) fun r14 σ13 => if r14 = 0 then fX4_markFailing_88 N k37 (fX4_markFailing_51 N k37 n) σ13 x1 x2 x3 else grd (inB x3 40) (letS (sI σ13 73 x3.toNatClampNeg (vp_nar .boolean (1 : Int32))) fun σ17 => fX4_markFailing_88 N k37 (fX4_markFailing_51 N k37 n) σ17 (1 : Int32) x2 x3) else fX4_markFailing_88 N k37 (fX4_markFailing_51 N k37 n) σ x1 x2 x3)
def fX4_markFailing_37 (N : Nat) : Nat → St → Int32 → Int32 → Option St
  | 0, _, _, _ => none
  | n + 1, σ, x1, x2 => if (40 : Int32) ≤ x2 then some σ else if x1 = 0 then some σ else fX4_markFailing_51 N (fX4_markFailing_37 N n) N σ (0 : Int32) x2 (0 : Int32)
def fX4_markFailing_2 (N : Nat) : Nat → St → Int32 → Option St
  | 0, _, _ => none
  | n + 1, σ, x1 => if (gI σ 66 0) ≤ x1 then fX4_markFailing_37 N N σ (1 : Int32) (0 : Int32) else bnd (fX3_isNever N σ x1) fun r3 σ2 => grd (inB x1 40) (letS (sI σ2 73 x1.toNatClampNeg (vp_nar .boolean r3)) fun σ5 => letS (x1 + (1 : Int32)) fun u6 => fX4_markFailing_2 N n σ5 u6)
def fX4_markFailing (N : Nat) (σ : St) : Option St := fX4_markFailing_2 N N σ (0 : Int32)
def fX4_isLike_19 (N : Nat) : Nat → St → Int32 → Int32 → Int32 → Option (Int32 × St)
  | 0, _, _, _, _ => none
  | n + 1, σ, x1, x2, x3 => if (8 : Int32) ≤ x3 then grd (isZ (1 : Int32)) (some ((1 : Int32), σ)) else bnd (fX3_lead N σ x1 x3) fun r6 σ5 => grd (inB r6 40) (bnd (fX3_lead N σ5 x2 x3) fun r9 σ8 => grd (inB r9 40) (if (gI σ5 74 r6.toNatClampNeg) = (gI σ8 74 r9.toNatClampNeg) then letS (x3 + (1 : Int32)) fun u12 => fX4_isLike_19 N n σ8 x1 x2 u12 else grd (isZ (0 : Int32)) (some ((0 : Int32), σ8))))
def fX4_isLike (N : Nat) (σ : St) (p0 : Int32) (p1 : Int32) : Option (Int32 × St) := grd (inB p0 40) (grd (inB p1 40) (if (gI σ 74 p0.toNatClampNeg) = (gI σ 74 p1.toNatClampNeg) then fX4_isLike_19 N N σ p0 p1 (0 : Int32) else grd (isZ (0 : Int32)) (some ((0 : Int32), σ))))
def fX4_firstLike_28 (N : Nat) (k2 : St → Int32 → Int32 → Option (Int32 × St)) (σ : St) (x1 : Int32) (x2 : Int32) : Option (Int32 × St) := letS (x2 + (1 : Int32)) fun u7 => k2 σ x1 u7
def fX4_firstLike_2 (N : Nat) : Nat → St → Int32 → Int32 → Option (Int32 × St)
  | 0, _, _, _ => none
  | n + 1, σ, x1, x2 => if x1 ≤ x2 then some (x1, σ) else grd (inB x2 40) (if (gI σ 75 x2.toNatClampNeg) = x2 then bnd (fX4_isLike N σ x2 x1) fun r5 σ4 => if r5 = 0 then fX4_firstLike_28 N (fX4_firstLike_2 N n) σ4 x1 x2 else some (x2, σ4) else fX4_firstLike_28 N (fX4_firstLike_2 N n) σ x1 x2)
def fX4_firstLike (N : Nat) (σ : St) (p0 : Int32) : Option (Int32 × St) := fX4_firstLike_2 N N σ p0 (0 : Int32)
def fX4_refineGroups_39 (N : Nat) (k4 : St → Int32 → Int32 → Option (Int32 × St)) (σ : St) (x1 : Int32) (x2 : Int32) : Option (Int32 × St) := letS (x2 + (1 : Int32)) fun u11 => k4 σ x1 u11
def fX4_refineGroups_4 (N : Nat) : Nat → St → Int32 → Int32 → Option (Int32 × St)
  | 0, _, _, _ => none
  | n + 1, σ, x1, x2 => if (gI σ 66 0) ≤ x2 then grd (cpOK (0 : Int32) (0 : Int32) (gI σ 66 0) 40 40) (letS (sA σ 74 (va_cpy (gI σ 75) (gI σ 74) (0 : Int32).toNatClampNeg (0 : Int32).toNatClampNeg (gI σ 66 0).toNatClampNeg)) fun σ3 => some (x1, σ3)) else bnd (fX4_firstLike N σ x2) fun r5 σ4 => grd (inB x2 40) (letS (sI σ4 75 x2.toNatClampNeg r5) fun σ7 => grd (inB x2 40) (if (gI σ7 75 x2.toNatClampNeg) = x2 then letS (x1 + (1 : Int32)) fun u10 => fX4_refineGroups_39 N (fX4_refineGroups_4 N n) σ7 u10 x2 else fX4_refineGroups_39 N (fX4_refineGroups_4 N n) σ7 x1 x2))
def fX4_refineGroups (N : Nat) (σ : St) : Option (Int32 × St) := fX4_refineGroups_4 N N σ (0 : Int32) (0 : Int32)
def fX4_groupConditions_32 (N : Nat) (k2 : St → Int32 → Option St) (σ : St) (x1 : Int32) (y0 : Int32) (y1 : Int32) : Option St := grd (inB y1 40) (letS (sI σ 74 y1.toNatClampNeg y0) fun σ5 => letS (x1 + (1 : Int32)) fun u6 => k2 σ5 u6)
def fX4_groupConditions_74 (N : Nat) (k45 : St → Int32 → Int32 → Int32 → Option St) (σ : St) (x1 : Int32) (x3 : Int32) (y0 : Int32) : Option St := letS (x3 + (1 : Int32)) fun u12 => k45 σ x1 y0 u12
def fX4_groupConditions_45 (N : Nat) : Nat → St → Int32 → Int32 → Int32 → Option St
  | 0, _, _, _, _ => none
  | n + 1, σ, x1, x2, x3 => if (40 : Int32) < x3 then some σ else if x2 = 0 then some σ else bnd (fX4_refineGroups N σ) fun r10 σ9 => if r10 ≤ x1 then fX4_groupConditions_74 N (fX4_groupConditions_45 N n) σ9 r10 x3 (0 : Int32) else fX4_groupConditions_74 N (fX4_groupConditions_45 N n) σ9 r10 x3 (1 : Int32)
def fX4_groupConditions_2 (N : Nat) : Nat → St → Int32 → Option St
  | 0, _, _ => none
  | n + 1, σ, x1 => if (gI σ 66 0) ≤ x1 then fX4_groupConditions_45 N N σ (0 : Int32) (1 : Int32) (0 : Int32) else grd (inB x1 40) (if (gI σ 73 x1.toNatClampNeg) = 0 then fX4_groupConditions_32 N (fX4_groupConditions_2 N n) σ x1 (0 : Int32) x1 else fX4_groupConditions_32 N (fX4_groupConditions_2 N n) σ x1 (1 : Int32) x1)
def fX4_groupConditions (N : Nat) (σ : St) : Option St := fX4_groupConditions_2 N N σ (0 : Int32)
def fX4_stateOf_67 (N : Nat) (σ : St) (x2 : Int32) : Option (Int32 × St) := grd (inB x2 40) (some (gI σ 76 x2.toNatClampNeg, σ))
def fX4_stateOf (N : Nat) (σ : St) (p0 : Int32) : Option (Int32 × St) := grd (inB p0 40) (if (gI σ 73 p0.toNatClampNeg) = 0 then grd (inB p0 40) (letS (gI σ 74 p0.toNatClampNeg) fun u4 => grd (inB u4 40) (if (gI σ 76 u4.toNatClampNeg) = (-1 : Int32) then if (40 : Int32) ≤ (gI σ 71 0) then fX4_stateOf_67 N σ u4 else grd (inB u4 40) (letS (sI σ 76 u4.toNatClampNeg (gI σ 71 0)) fun σ9 => grd (inB (gI σ9 71 0) 40) (letS (sI σ9 77 (gI σ9 71 0).toNatClampNeg u4) fun σ11 => letS (sI σ11 71 0 ((gI σ11 71 0) + (1 : Int32))) fun σ12 => fX4_stateOf_67 N σ12 u4)) else fX4_stateOf_67 N σ u4)) else some ((-1 : Int32), σ))
def fX4_numberStates_55 (N : Nat) (k39 : St → Int32 → Option St) : Nat → St → Int32 → Int32 → Option St
  | 0, _, _, _ => none
  | n + 1, σ, x1, x2 => if (8 : Int32) ≤ x2 then letS (x1 + (1 : Int32)) fun u11 => k39 σ u11 else grd (inB x1 40) (bnd (fX3_lead N σ (gI σ 77 x1.toNatClampNeg) x2) fun r14 σ13 => bnd (fX4_stateOf N σ13 r14) fun r16 σ15 => grd (inB ((x1 * (8 : Int32)) + x2) 320) (letS (sI σ15 72 ((x1 * (8 : Int32)) + x2).toNatClampNeg r16) fun σ18 => letS (x2 + (1 : Int32)) fun u19 => fX4_numberStates_55 N k39 n σ18 x1 u19))
def fX4_numberStates_39 (N : Nat) : Nat → St → Int32 → Option St
  | 0, _, _ => none
  | n + 1, σ, x1 => if (gI σ 71 0) ≤ x1 then some σ else if (40 : Int32) ≤ x1 then some σ else fX4_numberStates_55 N (fX4_numberStates_39 N n) N σ x1 (0 : Int32)
def fX4_numberStates_7 (N : Nat) : Nat → St → Int32 → Option St
  | 0, _, _ => none
  | n + 1, σ, x1 => if (gI σ 66 0) ≤ x1 then bnd (fX4_stateOf N σ (0 : Int32)) fun r4 σ3 => fX4_numberStates_39 N N σ3 (0 : Int32) else grd (inB x1 40) (letS (sI σ 76 x1.toNatClampNeg (-1 : Int32)) fun σ6 => letS (x1 + (1 : Int32)) fun u7 => fX4_numberStates_7 N n σ6 u7)
def fX4_numberStates (N : Nat) (σ : St) : Option St := letS (sI σ 71 0 (0 : Int32)) fun σ1 => fX4_numberStates_7 N N σ1 (0 : Int32)
def fX4_build (N : Nat) (σ : St) : Option St := bnd1 (fX4_markFailing N σ) fun σ1 => bnd1 (fX4_groupConditions N σ1) fun σ2 => bnd1 (fX4_numberStates N σ2) fun σ3 => some σ3
def fX7_start (N : Nat) (σ : St) : Option St := grd (isZ (1 : Int32)) (letS (sI σ 92 0 (1 : Int32)) fun σ1 => letS (sI σ1 93 0 (0 : Int32)) fun σ3 => bnd (fX4_firstState N σ3) fun r5 σ4 => letS (sI σ4 94 0 r5) fun σ6 => some σ6)
def fX7_end (N : Nat) (σ : St) : Option St := grd (isZ (0 : Int32)) (letS (sI σ 92 0 (0 : Int32)) fun σ1 => some σ1)
def fX7_hasFailed_19 (N : Nat) (σ : St) : Option (Int32 × St) := grd (isZ (0 : Int32)) (some ((0 : Int32), σ))
def fX7_hasFailed (N : Nat) (σ : St) : Option (Int32 × St) := if (gI σ 92 0) = 0 then fX7_hasFailed_19 N σ else if (gI σ 94 0) = (-1 : Int32) then grd (isZ (1 : Int32)) (some ((1 : Int32), σ)) else fX7_hasFailed_19 N σ
def fX7_canGoOn_28 (N : Nat) (σ : St) : Option (Int32 × St) := grd (isZ (0 : Int32)) (some ((0 : Int32), σ))
def fX7_canGoOn (N : Nat) (σ : St) : Option (Int32 × St) := if (gI σ 92 0) = 0 then fX7_canGoOn_28 N σ else if (gI σ 94 0) = (-1 : Int32) then fX7_canGoOn_28 N σ else if (60 : Int32) ≤ (gI σ 93 0) then fX7_canGoOn_28 N σ else grd (isZ (1 : Int32)) (some ((1 : Int32), σ))
def fX7_take (N : Nat) (σ : St) (p0 : Int32) : Option St := if (gI σ 93 0) < (60 : Int32) then grd (inB (gI σ 93 0) 60) (letS (sI σ 91 (gI σ 93 0).toNatClampNeg p0) fun σ3 => letS (sI σ3 93 0 ((gI σ3 93 0) + (1 : Int32))) fun σ4 => bnd (fX4_after N σ4 (gI σ4 94 0) p0) fun r6 σ5 => letS (sI σ5 94 0 r6) fun σ7 => some σ7) else some σ
def fX7_walk_5 (N : Nat) : Nat → St → Int32 → Int32 → Option (Int32 × St)
  | 0, _, _, _ => none
  | n + 1, σ, x3, x4 => if (gI σ 93 0) ≤ x4 then some (x3, σ) else grd (inB x4 60) (bnd (fX4_after N σ x3 (gI σ 91 x4.toNatClampNeg)) fun r4 σ3 => letS (x4 + (1 : Int32)) fun u5 => fX7_walk_5 N n σ3 r4 u5)
def fX7_walk (N : Nat) (σ : St) (p0 : Int32) (p1 : Int32) : Option (Int32 × St) := fX7_walk_5 N N σ p0 p1
def fX7_shortestFailingEnd_2 (N : Nat) : Nat → St → Int32 → Option (Int32 × St)
  | 0, _, _ => none
  | n + 1, σ, x1 => if (gI σ 93 0) ≤ x1 then some (gI σ 93 0, σ) else bnd (fX4_firstState N σ) fun r3 σ2 => bnd (fX7_walk N σ2 r3 ((gI σ2 93 0) - x1)) fun r5 σ4 => if r5 = (-1 : Int32) then some (x1, σ4) else letS (x1 + (1 : Int32)) fun u7 => fX7_shortestFailingEnd_2 N n σ4 u7
def fX7_shortestFailingEnd (N : Nat) (σ : St) : Option (Int32 × St) := fX7_shortestFailingEnd_2 N N σ (0 : Int32)
def fX7_holdsRepeating_36 (N : Nat) (σ : St) (x2 : Int32) : Option (Int32 × St) := if x2 = (-1 : Int32) then grd (isZ (0 : Int32)) (some ((0 : Int32), σ)) else grd (isZ (1 : Int32)) (some ((1 : Int32), σ))
def fX7_holdsRepeating_7 (N : Nat) : Nat → St → Int32 → Int32 → Int32 → Option (Int32 × St)
  | 0, _, _, _, _ => none
  | n + 1, σ, x1, x2, x3 => if (gI σ 71 0) ≤ x3 then fX7_holdsRepeating_36 N σ x2 else if x2 = (-1 : Int32) then fX7_holdsRepeating_36 N σ x2 else bnd (fX7_walk N σ x2 x1) fun r5 σ4 => letS (x3 + (1 : Int32)) fun u6 => fX7_holdsRepeating_7 N n σ4 x1 r5 u6
def fX7_holdsRepeating (N : Nat) (σ : St) (p0 : Int32) : Option (Int32 × St) := letS (gI σ 94 0) fun u1 => fX7_holdsRepeating_7 N N σ p0 u1 (0 : Int32)
