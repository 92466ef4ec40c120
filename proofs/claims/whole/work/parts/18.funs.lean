noncomputable section
def fX1_bits_j29 (v1 : Int) (Y : St) : Option (Int × (St)) := some (v1, Y)
def fX1_bits_l4 : Nat → Int → Int → (St) → Option (Int × (St))
  | 0 => fun _ _ _ => none
  | n + 1 => fun v1 v2 Y => if wr (Y.1 4) ≤ wr v2 then (fX1_bits_j29 v1 Y) else (bd v2 300 (nm (orI v1 (shlI 1 (Y.2 0 (Int.toNat v2)))) fun x101 => nm (v2 + 1) fun x102 => (fX1_bits_l4 n) x101 x102 Y))
def fX1_bits (Y : St) : Option (Int × (St)) := nm 0 fun x1 => nm 0 fun x2 => fX1_bits_l4 FU x1 x2 Y
def fX0_numberThings_j68 (k_15 : Int → Int → (St × St) → Option (St × St)) (v1 v2 : Int) (Y : St × St) : Option (St × St) := nm (v2 + 1) fun x101 => k_15 v1 x101 Y
def fX0_numberThings_l15 : Nat → Int → Int → (St × St) → Option (St × St)
  | 0 => fun _ _ _ => none
  | n + 1 => fun v1 v2 Y => if wr 16 ≤ wr v2 then (some Y) else (if wr (andI v1 (shlI 1 v2)) = 0 then (fX0_numberThings_j68 (fX0_numberThings_l15 n) v1 v2 Y) else (if wr 10 ≤ wr (Y.1.1 8) then (fX0_numberThings_j68 (fX0_numberThings_l15 n) v1 v2 Y) else (bd v2 16 (nm ((setA Y.1 1 (Int.toNat v2) (Y.1.1 8), Y.2)) fun Y102 => bd (Y102.1.1 8) 16 (nm ((setA Y102.1 2 (Int.toNat (Y102.1.1 8)) v2, Y102.2)) fun Y103 => nm ((setI Y103.1 8 ((Y103.1.1 8) + 1), Y103.2)) fun Y104 => fX0_numberThings_j68 (fX0_numberThings_l15 n) v1 v2 Y104)))))
def fX0_numberThings (Y : St × St) : Option (St × St) := cls (fX1_bits Y.2) (fun u => (Y.1, u)) fun r2 Y1 => nm r2 fun x3 => nm ((setI Y1.1 8 0, Y1.2)) fun Y4 => nm 0 fun x5 => fX0_numberThings_l15 FU x3 x5 Y4
def fJ6_bitCount_0f7a4 (a0 : Int) : Option Int := nm (a0 - (andI (ushrI a0 1) 1431655765)) fun x1 => nm ((andI x1 858993459) + (andI (ushrI x1 2) 858993459)) fun x2 => nm (andI (x2 + (ushrI x2 4)) 252645135) fun x3 => nm (x3 + (ushrI x3 8)) fun x4 => nm (x4 + (ushrI x4 16)) fun x5 => some (andI x5 63)
def fX0_listFullMasks_j75 (k_7 : Int → (St × St) → Option (St × St)) (v1 : Int) (Y : St × St) : Option (St × St) := nm (v1 + 1) fun x101 => k_7 x101 Y
def fX0_listFullMasks_l7 : Nat → Int → (St × St) → Option (St × St)
  | 0 => fun _ _ => none
  | n + 1 => fun v1 Y => if wr (shlI 1 (Y.1.1 8)) ≤ wr v1 then (some Y) else (bd v1 1024 (nm ((setA Y.1 5 (Int.toNat v1) 0, Y.2)) fun Y102 => clp (fJ6_bitCount_0f7a4 v1) fun r103 => if wr r103 = wr (Y102.1.1 10) then (if wr 252 ≤ wr (Y102.1.1 9) then (fX0_listFullMasks_j75 (fX0_listFullMasks_l7 n) v1 Y102) else (bd (Y102.1.1 9) 252 (nm ((setA Y102.1 3 (Int.toNat (Y102.1.1 9)) v1, Y102.2)) fun Y104 => bd v1 1024 (nm ((setA Y104.1 4 (Int.toNat v1) (Y104.1.1 9), Y104.2)) fun Y105 => nm ((setI Y105.1 9 ((Y105.1.1 9) + 1), Y105.2)) fun Y106 => fX0_listFullMasks_j75 (fX0_listFullMasks_l7 n) v1 Y106)))) else (fX0_listFullMasks_j75 (fX0_listFullMasks_l7 n) v1 Y102)))
def fX0_listFullMasks (Y : St × St) : Option (St × St) := nm ((setI Y.1 9 0, Y.2)) fun Y1 => nm 0 fun x2 => fX0_listFullMasks_l7 FU x2 Y1
def fX1_priceAt (Y : St) (a0 : Int) : Option (Int × (St)) := bd a0 300 (bd (Y.2 0 (Int.toNat a0)) 16 (some ((Y.2 1 (Int.toNat (Y.2 0 (Int.toNat a0)))), Y)))
def fX0_bestChoice_j72 (v3 : Int) (Y : St × St) : Option (Int × (St × St)) := some (v3, Y)
def fX0_bestChoice_j66 (k_11 : Int → Int → Int → Int → Int → Int → (St × St) → Option (Int × (St × St))) (v1 v2 v3 v4 v5 v6 : Int) (Y : St × St) : Option (Int × (St × St)) := nm (v6 + 1) fun x101 => k_11 v1 v2 v3 v4 v5 x101 Y
def fX0_bestChoice_j56 (k_11 : Int → Int → Int → Int → Int → Int → (St × St) → Option (Int × (St × St))) (v1 v2 v6 v7 : Int) (Y : St × St) : Option (Int × (St × St)) := nm v6 fun x102 => nm v7 fun x103 => nm 1 fun x104 => fX0_bestChoice_j66 k_11 v1 v2 x102 x103 x104 v6 Y
def fX0_bestChoice_l11 : Nat → Int → Int → Int → Int → Int → Int → (St × St) → Option (Int × (St × St))
  | 0 => fun _ _ _ _ _ _ _ => none
  | n + 1 => fun v1 v2 v3 v4 v5 v6 Y => if wr (Y.1.1 8) ≤ wr v6 then (fX0_bestChoice_j72 v3 Y) else (if wr (andI v1 (shlI 1 v6)) = 0 then (fX0_bestChoice_j66 (fX0_bestChoice_l11 n) v1 v2 v3 v4 v5 v6 Y) else (bd (orI (xorI v1 (shlI 1 v6)) v2) 1024 (nm (Y.1.2 5 (Int.toNat (orI (xorI v1 (shlI 1 v6)) v2))) fun x105 => if wr v5 = 0 then (fX0_bestChoice_j56 (fX0_bestChoice_l11 n) v1 v2 v6 x105 Y) else (if wr v4 ≤ wr x105 then (fX0_bestChoice_j66 (fX0_bestChoice_l11 n) v1 v2 v3 v4 v5 v6 Y) else (fX0_bestChoice_j56 (fX0_bestChoice_l11 n) v1 v2 v6 x105 Y)))))
def fX0_bestChoice (Y : St × St) (a0 a1 : Int) : Option (Int × (St × St)) := nm 0 fun x1 => nm 0 fun x2 => nm 0 fun x3 => nm 0 fun x4 => fX0_bestChoice_l11 FU a0 a1 x1 x2 x3 x4 Y
def fX0_keepChoice (Y : St × St) (a0 a1 a2 : Int) : Option (St × St) := nm ((a0 * 16) + (shrI a1 4)) fun x1 => nm ((andI a1 15) * 4) fun x2 => bd x1 4800 (bd x1 4800 (nm ((setA Y.1 6 (Int.toNat x1) ((((lz (Y.1.2 6 (Int.toNat x1))) &&& (((15) <<< ((iz x2).toInt64 &&& 63)) ^^^ (-1))) ||| ((iz a2).toInt64 <<< ((iz x2).toInt64 &&& 63)))).toInt, Y.2)) fun Y3 => some Y3))
def fX0_fillAsking_j95 (k_29 : Int → Int → Int → Int → (St × St) → Option (St × St)) (v1 v2 v3 v4 : Int) (Y : St × St) : Option (St × St) := nm (v4 + 1) fun x101 => k_29 v1 v2 v3 x101 Y
def fX0_fillAsking_l29 : Nat → Int → Int → Int → Int → (St × St) → Option (St × St)
  | 0 => fun _ _ _ _ _ => none
  | n + 1 => fun v1 v2 v3 v4 Y => if wr (Y.1.1 9) ≤ wr v4 then (some Y) else (bd v4 252 (nm (Y.1.2 3 (Int.toNat v4)) fun x102 => if wr (andI x102 v2) = 0 then (cls (fX0_bestChoice Y x102 v2) (fun u => u) fun r104 Y103 => nm r104 fun x105 => bd (orI (xorI x102 (shlI 1 x105)) v2) 1024 (bd x102 1024 (nm ((setA Y103.1 5 (Int.toNat x102) (v3 + (Y103.1.2 5 (Int.toNat (orI (xorI x102 (shlI 1 x105)) v2)))), Y103.2)) fun Y106 => clv (fX0_keepChoice Y106 v1 v4 x105) (fun u => u) fun Y107 => fX0_fillAsking_j95 (fX0_fillAsking_l29 n) v1 v2 v3 v4 Y107))) else (fX0_fillAsking_j95 (fX0_fillAsking_l29 n) v1 v2 v3 v4 Y)))
def fX0_fillAsking (Y : St × St) (a0 : Int) : Option (St × St) := bd a0 300 (bd (Y.2.2 0 (Int.toNat a0)) 16 (nm (shlI 1 (Y.1.2 1 (Int.toNat (Y.2.2 0 (Int.toNat a0))))) fun x1 => cls (fX1_priceAt Y.2 a0) (fun u => (Y.1, u)) fun r3 Y2 => nm r3 fun x4 => nm 0 fun x5 => fX0_fillAsking_l29 FU a0 x1 x4 x5 Y2))
def fX0_keptChoice (Y : St × St) (a0 a1 : Int) : Option (Int × (St × St)) := nm ((a0 * 16) + (shrI a1 4)) fun x1 => bd x1 4800 (some ((andI (l2iI (((lz (Y.1.2 6 (Int.toNat x1))) >>> ((iz ((andI a1 15) * 4)).toInt64 &&& 63)))) 15), Y))
def fX0_followChoices_j81 (k_5 : Int → Int → (St × St) → Option (St × St)) (v3 v4 : Int) (Y : St × St) : Option (St × St) := nm (v4 + 1) fun x101 => k_5 v3 x101 Y
def fX0_followChoices_l5 : Nat → Int → Int → (St × St) → Option (St × St)
  | 0 => fun _ _ _ => none
  | n + 1 => fun v3 v4 Y => if wr (Y.2.1 4) ≤ wr v4 then (some Y) else (bd v4 300 (bd (Y.2.2 0 (Int.toNat v4)) 16 (nm (shlI 1 (Y.1.2 1 (Int.toNat (Y.2.2 0 (Int.toNat v4))))) fun x102 => if wr (andI v3 x102) = 0 then (bd v3 1024 (cls (fX0_keptChoice Y v4 (Y.1.2 4 (Int.toNat v3))) (fun u => u) fun r104 Y103 => nm r104 fun x105 => bd x105 16 (bd v4 300 (nm ((setA Y103.1 7 (Int.toNat v4) (Y103.1.2 2 (Int.toNat x105)), Y103.2)) fun Y106 => nm (orI (xorI v3 (shlI 1 x105)) x102) fun x107 => fX0_followChoices_j81 (fX0_followChoices_l5 n) x107 v4 Y106)))) else (fX0_followChoices_j81 (fX0_followChoices_l5 n) v3 v4 Y))))
def fX0_followChoices (Y : St × St) (a0 a1 : Int) : Option (St × St) := nm a0 fun x1 => nm a1 fun x2 => fX0_followChoices_l5 FU x1 x2 Y
def fX0_prepare_j140 (v2 v3 : Int) (Y : St × St) : Option (St × St) := bd v2 1024 (nm ((setI Y.1 11 ((Y.1.1 11) + (Y.1.2 5 (Int.toNat v2))), Y.2)) fun Y101 => clv (fX0_followChoices Y101 v2 v3) (fun u => u) fun Y102 => some Y102)
def fX0_prepare_l122 : Nat → Int → Int → Int → (St × St) → Option (St × St)
  | 0 => fun _ _ _ _ => none
  | n + 1 => fun v2 v3 v4 Y => if wr v4 < wr v3 then (fX0_prepare_j140 v2 v3 Y) else (clv (fX0_fillAsking Y v4) (fun u => u) fun Y103 => nm (v4 + (-1)) fun x104 => (fX0_prepare_l122 n) v2 v3 x104 Y103)
def fX0_prepare_j111 (v2 v3 : Int) (Y : St × St) : Option (St × St) := nm ((Y.2.1 4) - 1) fun x105 => fX0_prepare_l122 FU v2 v3 x105 Y
def fX0_prepare_j100 (k_39 : Int → Int → Int → (St × St) → Option (St × St)) (v1 v2 v3 v4 : Int) (Y : St × St) : Option (St × St) := nm (orI v2 v4) fun x106 => nm (v3 + 1) fun x107 => k_39 v1 x106 x107 Y
def fX0_prepare_l39 : Nat → Int → Int → Int → (St × St) → Option (St × St)
  | 0 => fun _ _ _ _ => none
  | n + 1 => fun v1 v2 v3 Y => if wr (Y.2.1 4) ≤ wr v3 then (fX0_prepare_j111 v2 v3 Y) else (clp (fJ6_bitCount_0f7a4 v2) fun r108 => if wr v1 ≤ wr r108 then (fX0_prepare_j111 v2 v3 Y) else (bd v3 300 (bd (Y.2.2 0 (Int.toNat v3)) 16 (nm (shlI 1 (Y.1.2 1 (Int.toNat (Y.2.2 0 (Int.toNat v3))))) fun x109 => if wr (andI v2 x109) = 0 then (cls (fX1_priceAt Y.2 v3) (fun u => (Y.1, u)) fun r111 Y110 => nm ((setI Y110.1 11 ((Y.1.1 11) + r111), Y110.2)) fun Y112 => fX0_prepare_j100 (fX0_prepare_l39 n) v1 v2 v3 x109 Y112) else (fX0_prepare_j100 (fX0_prepare_l39 n) v1 v2 v3 x109 Y)))))
def fX0_prepare (Y : St × St) (a0 : Int) : Option (St × St) := if wr (Y.1.1 10) = wr a0 then (some Y) else (nm ((setI Y.1 10 a0, Y.2)) fun Y1 => nm ((setI Y1.1 11 0, Y1.2)) fun Y2 => nm ((setR Y2.1 7 (fun j => if j < 300 then (-1) else Y2.1.2 7 j), Y2.2)) fun Y3 => clv (fX0_numberThings Y3) (fun u => u) fun Y4 => clv (fX0_listFullMasks Y4) (fun u => u) fun Y5 => nm 0 fun x6 => nm 0 fun x7 => fX0_prepare_l39 FU a0 x6 x7 Y5)
def fX1_has_j17 (s0 : Int) (Y : St) : Option (Int × (St)) := cb s0 (some (s0, Y))
def fX1_has_j16 (Y : St) : Option (Int × (St)) := fX1_has_j17 0 Y
def fX1_has (Y : St) (a0 : Int) : Option (Int × (St)) := if wr a0 < 0 then (fX1_has_j16  Y) else (if wr (Y.1 4) ≤ wr a0 then (fX1_has_j16  Y) else (fX1_has_j17 1 Y))
def fX1_append_j30 (Y : St) : Option (St) := some Y
def fX1_append (Y : St) (a0 : Int) : Option (St) := if wr 300 ≤ wr (Y.1 4) then (fX1_append_j30  Y) else (bd (Y.1 4) 300 (nm (setA Y 0 (Int.toNat (Y.1 4)) a0) fun Y1 => nm (setI Y1 4 ((Y1.1 4) + 1)) fun Y2 => fX1_append_j30  Y2))
def fX1_priceOfAll_j26 (v1 : Int) (Y : St) : Option (Int × (St)) := some (v1, Y)
def fX1_priceOfAll_l4 : Nat → Int → Int → (St) → Option (Int × (St))
  | 0 => fun _ _ _ => none
  | n + 1 => fun v1 v2 Y => if wr (Y.1 4) ≤ wr v2 then (fX1_priceOfAll_j26 v1 Y) else (cls (fX1_priceAt Y v2) (fun u => u) fun r102 Y101 => nm (v1 + r102) fun x103 => nm (v2 + 1) fun x104 => (fX1_priceOfAll_l4 n) x103 x104 Y101)
def fX1_priceOfAll (Y : St) : Option (Int × (St)) := nm 0 fun x1 => nm 0 fun x2 => fX1_priceOfAll_l4 FU x1 x2 Y
def fX1_unlike (Y : St) : Option (Int × (St)) := cls (fX1_bits Y) (fun u => u) fun r2 Y1 => clp (fJ6_bitCount_0f7a4 r2) fun r3 => some (r3, Y1)
def fX1_phaseAt_j56 (v3 : Int) (Y : St) : Option (Int × (St)) := some (v3, Y)
def fX1_phaseAt_j43 (k_8 : Int → Int → Int → Int → Int → (St) → Option (Int × (St))) (v1 v2 v3 v4 v5 v6 : Int) (Y : St) : Option (Int × (St)) := nm (orI v4 v6) fun x101 => nm (v5 + 1) fun x102 => k_8 v1 v2 v3 x101 x102 Y
def fX1_phaseAt_l8 : Nat → Int → Int → Int → Int → Int → (St) → Option (Int × (St))
  | 0 => fun _ _ _ _ _ _ => none
  | n + 1 => fun v1 v2 v3 v4 v5 Y => if wr v2 < wr v5 then (fX1_phaseAt_j56 v3 Y) else (bd v5 300 (nm (shlI 1 (Y.2 0 (Int.toNat v5))) fun x103 => clp (fJ6_bitCount_0f7a4 (orI v4 x103)) fun r104 => if wr r104 ≤ wr v1 then (fX1_phaseAt_j43 (fX1_phaseAt_l8 n) v1 v2 v3 v4 v5 x103 Y) else (nm (v3 + 1) fun x105 => nm 0 fun x106 => fX1_phaseAt_j43 (fX1_phaseAt_l8 n) v1 v2 x105 x106 v5 x103 Y)))
def fX1_phaseAt (Y : St) (a0 a1 : Int) : Option (Int × (St)) := nm 0 fun x1 => nm 0 fun x2 => nm 0 fun x3 => fX1_phaseAt_l8 FU a0 a1 x1 x2 x3 Y
def fX1_distanceAt_j32 (v2 : Int) (Y : St) : Option (Int × (St)) := clp (fJ6_bitCount_0f7a4 v2) fun r101 => some (r101, Y)
def fX1_distanceAt_l13 : Nat → Int → Int → Int → (St) → Option (Int × (St))
  | 0 => fun _ _ _ _ => none
  | n + 1 => fun v1 v2 v3 Y => if wr v3 < 0 then (some (0, Y)) else (bd v3 300 (bd v1 300 (if wr (Y.2 0 (Int.toNat v3)) = wr (Y.2 0 (Int.toNat v1)) then (fX1_distanceAt_j32 v2 Y) else (bd v3 300 (nm (orI v2 (shlI 1 (Y.2 0 (Int.toNat v3)))) fun x102 => nm (v3 + (-1)) fun x103 => (fX1_distanceAt_l13 n) v1 x102 x103 Y)))))
def fX1_distanceAt (Y : St) (a0 : Int) : Option (Int × (St)) := bd a0 300 (nm (shlI 1 (Y.2 0 (Int.toNat a0))) fun x1 => nm (a0 - 1) fun x2 => fX1_distanceAt_l13 FU a0 x1 x2 Y)
def fX1_findNext_l17 : Nat → Int → (St) → Option (St)
  | 0 => fun _ _ => none
  | n + 1 => fun v1 Y => if wr v1 < 0 then (some Y) else (bd v1 300 (bd (Y.2 0 (Int.toNat v1)) 16 (bd v1 300 (nm (setA Y 2 (Int.toNat v1) (Y.2 3 (Int.toNat (Y.2 0 (Int.toNat v1))))) fun Y101 => bd v1 300 (bd (Y101.2 0 (Int.toNat v1)) 16 (nm (setA Y101 3 (Int.toNat (Y101.2 0 (Int.toNat v1))) v1) fun Y102 => nm (v1 + (-1)) fun x103 => (fX1_findNext_l17 n) x103 Y102))))))
def fX1_findNext (Y : St) : Option (St) := nm (setR Y 3 (fun j => if j < 16 then 300 else Y.2 3 j)) fun Y1 => nm ((Y1.1 4) - 1) fun x2 => fX1_findNext_l17 FU x2 Y1
def fX2_begin_j72 (Y : St × St) : Option (St × St) := some Y
def fX2_begin (Y : St × St) (a0 a1 : Int) : Option (St × St) := nm ((setI Y.1 9 a0, Y.2)) fun Y1 => nm ((setI Y1.1 10 a1, Y1.2)) fun Y2 => nm ((setR Y2.1 1 (fun j => if j < 16 then 0 else Y2.1.2 1 j), Y2.2)) fun Y3 => nm ((setR Y3.1 2 (fun j => if j < 5 then 0 else Y3.1.2 2 j), Y3.2)) fun Y4 => nm ((setI Y4.1 11 0, Y4.2)) fun Y5 => nm ((setI Y5.1 12 0, Y5.2)) fun Y6 => nm ((setI Y6.1 13 0, Y6.2)) fun Y7 => nm ((setI Y7.1 14 0, Y7.2)) fun Y8 => nm ((setI Y8.1 15 0, Y8.2)) fun Y9 => nm ((setI Y9.1 16 0, Y9.2)) fun Y10 => if wr (Y10.1.1 9) = wr 8 then (clv (fX1_findNext Y10.2) (fun u => (Y10.1, u)) fun Y11 => fX2_begin_j72  Y11) else (fX2_begin_j72  Y10)
def fX2_lies_j25 (s0 : Int) (Y : St × St) : Option (Int × (St × St)) := cb s0 (some (s0, Y))
def fX2_lies_j20 (Y : St × St) : Option (Int × (St × St)) := fX2_lies_j25 1 Y
def fX2_lies (Y : St × St) (a0 : Int) : Option (Int × (St × St)) := bd a0 16 (if wr (Y.1.2 1 (Int.toNat a0)) = wr 1 then (fX2_lies_j20  Y) else (bd a0 16 (if wr (Y.1.2 1 (Int.toNat a0)) = wr 2 then (fX2_lies_j20  Y) else (fX2_lies_j25 0 Y))))
def fX2_hasBooks_j22 (s0 : Int) (Y : St × St) : Option (Int × (St × St)) := cb s0 (some (s0, Y))
def fX2_hasBooks_j17 (Y : St × St) : Option (Int × (St × St)) := fX2_hasBooks_j22 1 Y
def fX2_hasBooks (Y : St × St) : Option (Int × (St × St)) := if wr (Y.1.1 9) = wr 5 then (fX2_hasBooks_j17  Y) else (if wr (Y.1.1 9) = wr 6 then (fX2_hasBooks_j17  Y) else (fX2_hasBooks_j22 0 Y))
def fX2_move (Y : St × St) (a0 a1 : Int) : Option (St × St) := bd a0 16 (bd (Y.1.2 1 (Int.toNat a0)) 5 (bd (Y.1.2 1 (Int.toNat a0)) 5 (nm ((setA Y.1 2 (Int.toNat (Y.1.2 1 (Int.toNat a0))) ((Y.1.2 2 (Int.toNat (Y.1.2 1 (Int.toNat a0)))) - 1), Y.2)) fun Y1 => bd a1 5 (bd a1 5 (nm ((setA Y1.1 2 (Int.toNat a1) ((Y1.1.2 2 (Int.toNat a1)) + 1), Y1.2)) fun Y2 => bd a0 16 (nm ((setA Y2.1 1 (Int.toNat a0) a1, Y2.2)) fun Y3 => bd a0 16 (nm ((setA Y3.1 3 (Int.toNat a0) (Y3.1.1 11), Y3.2)) fun Y4 => some Y4)))))))
def fX2_meet_j35 (Y : St × St) : Option (St × St) := some Y
def fX2_meet (Y : St × St) (a0 : Int) : Option (St × St) := bd a0 16 (bd a0 16 (nm ((setA Y.1 5 (Int.toNat a0) ((Y.1.2 5 (Int.toNat a0)) + 1), Y.2)) fun Y1 => nm ((setI Y1.1 12 (orI (Y1.1.1 12) (shlI 1 a0)), Y1.2)) fun Y2 => cls (fX2_hasBooks Y2) (fun u => u) fun r4 Y3 => if wr r4 = 0 then (fX2_meet_j35  Y3) else (clv (fX2_move Y3 a0 2) (fun u => u) fun Y5 => fX2_meet_j35  Y5)))
def fX2_partFor_j70 (v1 : Int) (Y : St × St) : Option (Int × (St × St)) := clv (fX2_move Y v1 0) (fun u => u) fun Y101 => some (2, Y101)
def fX2_partFor_j47 (v1 : Int) (Y : St × St) : Option (Int × (St × St)) := if wr (Y.1.1 9) = wr 6 then (nm ((setI Y.1 15 (maxI 0 ((Y.1.1 15) - 1)), Y.2)) fun Y102 => fX2_partFor_j70 v1 Y102) else (fX2_partFor_j70 v1 Y)
def fX2_partFor (Y : St × St) (a0 : Int) : Option (Int × (St × St)) := bd a0 16 (nm (Y.1.2 1 (Int.toNat a0)) fun x1 => if wr x1 = 0 then (some (1, Y)) else (if wr (Y.1.1 9) = wr 6 then (if wr x1 = wr 3 then (nm ((setI Y.1 15 (minI (Y.1.1 10) ((Y.1.1 15) + 1)), Y.2)) fun Y2 => fX2_partFor_j70 a0 Y2) else (fX2_partFor_j47 a0 Y)) else (fX2_partFor_j47 a0 Y)))
def fX2_lying (Y : St × St) : Option (Int × (St × St)) := bd 1 5 (bd 2 5 (some (((Y.1.2 2 (Int.toNat 1)) + (Y.1.2 2 (Int.toNat 2))), Y)))
def fX2_endFullRound_j29 (Y : St × St) : Option (St × St) := some Y
def fX2_endFullRound (Y : St × St) : Option (St × St) := clp (fJ6_bitCount_0f7a4 (Y.1.1 12)) fun r1 => if wr r1 < wr (Y.1.1 10) then (fX2_endFullRound_j29  Y) else (nm ((setI Y.1 12 0, Y.2)) fun Y2 => nm ((setI Y2.1 13 ((Y2.1.1 13) + 1), Y2.2)) fun Y3 => fX2_endFullRound_j29  Y3)
def fX2_keyOf_j141 (v1 : Int) (Y : St × St) : Option (Int × (St × St)) := bd v1 16 (some ((Y.1.2 4 (Int.toNat v1)), Y))
def fX2_keyOf_j106 (s0 : Int) (Y : St × St) : Option (Int × (St × St)) := some (s0, Y)
def fX2_keyOf_j81 (v1 : Int) (Y : St × St) : Option (Int × (St × St)) := bd v1 16 (if wr (Y.1.2 1 (Int.toNat v1)) = wr 2 then (bd v1 16 (fX2_keyOf_j106 ((Y.1.2 4 (Int.toNat v1))) Y)) else (bd v1 16 (fX2_keyOf_j106 ((Y.1.2 3 (Int.toNat v1))) Y)))
def fX2_keyOf (Y : St × St) (a0 : Int) : Option (Int × (St × St)) := if wr (Y.1.1 9) = 0 then (bd a0 16 (some ((Y.1.2 3 (Int.toNat a0)), Y))) else (if wr (Y.1.1 9) = 1 then (fX2_keyOf_j141 a0 Y) else (if wr (Y.1.1 9) = 2 then (fX2_keyOf_j141 a0 Y) else (if wr (Y.1.1 9) = 3 then (fX2_keyOf_j141 a0 Y) else (if wr (Y.1.1 9) = 4 then (bd a0 16 (bd a0 16 (some ((((Y.1.2 5 (Int.toNat a0)) * 300) + (Y.1.2 4 (Int.toNat a0))), Y)))) else (if wr (Y.1.1 9) = 5 then (fX2_keyOf_j81 a0 Y) else (if wr (Y.1.1 9) = 6 then (fX2_keyOf_j81 a0 Y) else (if wr (Y.1.1 9) = 7 then (bd a0 16 (bd a0 16 (some ((((Y.1.2 6 (Int.toNat a0)) * 300) + (Y.1.2 4 (Int.toNat a0))), Y)))) else (if wr (Y.1.1 9) = 8 then (bd a0 16 (bd (Y.1.2 4 (Int.toNat a0)) 300 (some ((-(Y.2.2 2 (Int.toNat (Y.1.2 4 (Int.toNat a0))))), Y)))) else (fX2_keyOf_j141 a0 Y)))))))))
def fX2_firstOf_j94 (v2 : Int) (Y : St × St) : Option (Int × (St × St)) := some (v2, Y)
def fX2_firstOf_j88 (k_10 : Int → Int → Int → Int → Int → (St × St) → Option (Int × (St × St))) (v1 v2 v3 v4 v5 : Int) (Y : St × St) : Option (Int × (St × St)) := nm (v5 + 1) fun x101 => k_10 v1 v2 v3 v4 x101 Y
def fX2_firstOf_j79 (k_10 : Int → Int → Int → Int → Int → (St × St) → Option (Int × (St × St))) (v1 v5 v7 : Int) (Y : St × St) : Option (Int × (St × St)) := nm v5 fun x102 => nm v7 fun x103 => nm 1 fun x104 => fX2_firstOf_j88 k_10 v1 x102 x103 x104 v5 Y
def fX2_firstOf_j42 (k_10 : Int → Int → Int → Int → Int → (St × St) → Option (Int × (St × St))) (v1 v2 v3 v4 v5 s0 : Int) (Y : St × St) : Option (Int × (St × St)) := nm s0 fun x105 => bd v5 16 (if wr (Y.1.2 1 (Int.toNat v5)) = wr v1 then (if wr x105 = 0 then (cls (fX2_keyOf Y v5) (fun u => u) fun r107 Y106 => nm r107 fun x108 => if wr v4 = 0 then (fX2_firstOf_j79 k_10 v1 v5 x108 Y106) else (if wr v3 ≤ wr x108 then (fX2_firstOf_j88 k_10 v1 v2 v3 v4 v5 Y106) else (fX2_firstOf_j79 k_10 v1 v5 x108 Y106))) else (fX2_firstOf_j88 k_10 v1 v2 v3 v4 v5 Y)) else (fX2_firstOf_j88 k_10 v1 v2 v3 v4 v5 Y))
def fX2_firstOf_j41 (k_10 : Int → Int → Int → Int → Int → (St × St) → Option (Int × (St × St))) (v1 v2 v3 v4 v5 : Int) (Y : St × St) : Option (Int × (St × St)) := fX2_firstOf_j42 k_10 v1 v2 v3 v4 v5 0 Y
def fX2_firstOf_l10 : Nat → Int → Int → Int → Int → Int → (St × St) → Option (Int × (St × St))
  | 0 => fun _ _ _ _ _ _ => none
  | n + 1 => fun v1 v2 v3 v4 v5 Y => if wr 16 ≤ wr v5 then (fX2_firstOf_j94 v2 Y) else (if wr (Y.1.1 9) = wr 2 then (if wr (andI (Y.1.1 12) (shlI 1 v5)) = 0 then (fX2_firstOf_j41 (fX2_firstOf_l10 n) v1 v2 v3 v4 v5 Y) else (fX2_firstOf_j42 (fX2_firstOf_l10 n) v1 v2 v3 v4 v5 1 Y)) else (fX2_firstOf_j41 (fX2_firstOf_l10 n) v1 v2 v3 v4 v5 Y))
def fX2_firstOf (Y : St × St) (a0 : Int) : Option (Int × (St × St)) := nm 0 fun x1 => nm 0 fun x2 => nm 0 fun x3 => nm 0 fun x4 => fX2_firstOf_l10 FU a0 x1 x2 x3 x4 Y
def fX2_moveHandOn_j24 (s0 : Int) (Y : St × St) : Option (St × St) := nm ((setI Y.1 14 s0, Y.2)) fun Y101 => some Y101
def fX2_moveHandOn (Y : St × St) : Option (St × St) := if wr (Y.1.1 10) ≤ wr ((Y.1.1 14) + 1) then (fX2_moveHandOn_j24 0 Y) else (fX2_moveHandOn_j24 (((Y.1.1 14) + 1)) Y)
def fX2_turnHand_j61 (Y : St × St) : Option (Int × (St × St)) := bd (Y.1.1 14) 8 (nm (Y.1.2 8 (Int.toNat (Y.1.1 14))) fun x101 => clv (fX2_moveHandOn Y) (fun u => u) fun Y102 => some (x101, Y102))
def fX2_turnHand_l2 : Nat → Int → (St × St) → Option (Int × (St × St))
  | 0 => fun _ _ => none
  | n + 1 => fun v1 Y => if wr (Y.1.1 10) ≤ wr v1 then (fX2_turnHand_j61  Y) else (bd (Y.1.1 14) 8 (if wr (andI (Y.1.1 12) (shlI 1 (Y.1.2 8 (Int.toNat (Y.1.1 14))))) = 0 then (fX2_turnHand_j61  Y) else (bd (Y.1.1 14) 8 (nm ((setI Y.1 12 (andI (Y.1.1 12) (xorI (shlI 1 (Y.1.2 8 (Int.toNat (Y.1.1 14)))) (-1))), Y.2)) fun Y103 => clv (fX2_moveHandOn Y103) (fun u => u) fun Y104 => nm (v1 + 1) fun x105 => (fX2_turnHand_l2 n) x105 Y104))))
def fX2_turnHand (Y : St × St) : Option (Int × (St × St)) := nm 0 fun x1 => fX2_turnHand_l2 FU x1 Y
def fX2_partThatLoses_j24 (s0 : Int) (Y : St × St) : Option (Int × (St × St)) := some (s0, Y)
def fX2_partThatLoses_j19 (Y : St × St) : Option (Int × (St × St)) := fX2_partThatLoses_j24 1 Y
def fX2_partThatLoses (Y : St × St) (a0 : Int) : Option (Int × (St × St)) := bd 1 5 (if wr a0 < wr (Y.1.2 2 (Int.toNat 1)) then (fX2_partThatLoses_j19  Y) else (bd 2 5 (if wr (Y.1.2 2 (Int.toNat 2)) = 0 then (fX2_partThatLoses_j19  Y) else (fX2_partThatLoses_j24 2 Y))))
def fX2_chooseGoing_j83 (Y : St × St) : Option (Int × (St × St)) := cls (fX2_firstOf Y 1) (fun u => u) fun r102 Y101 => some (r102, Y101)
def fX2_chooseGoing (Y : St × St) : Option (Int × (St × St)) := if wr (Y.1.1 9) = 2 then (clv (fX2_endFullRound Y) (fun u => u) fun Y2 => cls (fX2_firstOf Y2 1) (fun u => u) fun r4 Y3 => some (r4, Y3)) else (if wr (Y.1.1 9) = 3 then (cls (fX2_turnHand Y) (fun u => u) fun r7 Y6 => some (r7, Y6)) else (if wr (Y.1.1 9) = 4 then (fX2_chooseGoing_j83  Y) else (if wr (Y.1.1 9) = 5 then (cz 4 (cls (fX2_partThatLoses Y (divI (Y.1.1 10) 4)) (fun u => u) fun r11 Y10 => cls (fX2_firstOf Y10 r11) (fun u => u) fun r13 Y12 => some (r13, Y12))) else (if wr (Y.1.1 9) = 6 then (cls (fX2_partThatLoses Y (Y.1.1 15)) (fun u => u) fun r16 Y15 => cls (fX2_firstOf Y15 r16) (fun u => u) fun r18 Y17 => some (r18, Y17)) else (fX2_chooseGoing_j83  Y)))))
def fX2_bookFor_j33 (s0 : Int) (Y : St × St) : Option (Int × (St × St)) := some (s0, Y)
def fX2_bookFor_j19 (Y : St × St) : Option (Int × (St × St)) := if wr (Y.1.1 9) = wr 6 then (fX2_bookFor_j33 4 Y) else (fX2_bookFor_j33 0 Y)
def fX2_bookFor (Y : St × St) (a0 : Int) : Option (Int × (St × St)) := cls (fX2_hasBooks Y) (fun u => u) fun r2 Y1 => if wr r2 = 0 then (fX2_bookFor_j19  Y1) else (bd a0 16 (if wr (Y1.1.2 1 (Int.toNat a0)) = wr 1 then (some (3, Y1)) else (fX2_bookFor_j19  Y1)))
def fX2_takeAway_j52 (v1 v2 : Int) (Y : St × St) : Option (St × St) := clv (fX2_move Y v1 v2) (fun u => u) fun Y101 => some Y101
def fX2_takeAway_j19 (v1 : Int) (Y : St × St) : Option (St × St) := cls (fX2_bookFor Y v1) (fun u => u) fun r103 Y102 => nm r103 fun x104 => if wr x104 = 0 then (fX2_takeAway_j52 v1 x104 Y102) else (bd x104 5 (if wr (Y102.1.2 2 (Int.toNat x104)) < wr (Y102.1.1 10) then (fX2_takeAway_j52 v1 x104 Y102) else (cls (fX2_firstOf Y102 x104) (fun u => u) fun r106 Y105 => clv (fX2_move Y105 r106 0) (fun u => u) fun Y107 => fX2_takeAway_j52 v1 x104 Y107)))
def fX2_takeAway (Y : St × St) (a0 : Int) : Option (St × St) := if wr (Y.1.1 9) = wr 7 then (bd a0 16 (nm ((setI Y.1 16 (Y.1.2 6 (Int.toNat a0)), Y.2)) fun Y1 => fX2_takeAway_j19 a0 Y1)) else (fX2_takeAway_j19 a0 Y)
def fX2_bring_j83 (v1 v2 v4 : Int) (Y : St × St) : Option (Int × (St × St)) := clv (fX2_move Y v1 v2) (fun u => u) fun Y101 => some (v4, Y101)
def fX2_bring_j42 (v1 v2 v3 v4 : Int) (Y : St × St) : Option (Int × (St × St)) := bd v1 16 (nm ((setA Y.1 5 (Int.toNat v1) 1, Y.2)) fun Y102 => bd v1 16 (nm ((setA Y102.1 7 (Int.toNat v1) v3, Y102.2)) fun Y103 => bd v3 8 (nm ((setA Y103.1 8 (Int.toNat v3) v1, Y103.2)) fun Y104 => if wr (Y104.1.1 9) = wr 2 then (nm ((setI Y104.1 12 (orI (Y104.1.1 12) (shlI 1 v1)), Y104.2)) fun Y105 => fX2_bring_j83 v1 v2 v4 Y105) else (fX2_bring_j83 v1 v2 v4 Y104))))
def fX2_bring (Y : St × St) (a0 : Int) : Option (Int × (St × St)) := cls (fX2_partFor Y a0) (fun u => u) fun r2 Y1 => nm r2 fun x3 => cls (fX2_lying Y1) (fun u => u) fun r5 Y4 => nm r5 fun x6 => nm (-1) fun x7 => if wr x6 < wr (Y4.1.1 10) then (fX2_bring_j42 a0 x3 x6 x7 Y4) else (cls (fX2_chooseGoing Y4) (fun u => u) fun r9 Y8 => nm r9 fun x10 => bd x10 16 (nm (Y8.1.2 7 (Int.toNat x10)) fun x11 => clv (fX2_takeAway Y8 x10) (fun u => u) fun Y12 => fX2_bring_j42 a0 x3 x11 x10 Y12))
def fX2_step_j61 (v1 v2 : Int) (Y : St × St) : Option (Int × (St × St)) := bd v1 16 (bd v1 16 (nm ((setA Y.1 6 (Int.toNat v1) ((Y.1.1 16) + (Y.2.2 1 (Int.toNat v1))), Y.2)) fun Y101 => bd v1 16 (nm ((setA Y101.1 4 (Int.toNat v1) (Y101.1.1 11), Y101.2)) fun Y102 => nm ((setI Y102.1 11 ((Y102.1.1 11) + 1), Y102.2)) fun Y103 => some (v2, Y103))))
def fX2_step (Y : St × St) : Option (Int × (St × St)) := cls (fX1_has Y.2 (Y.1.1 11)) (fun u => (Y.1, u)) fun r2 Y1 => if wr r2 = 0 then (some ((-1), Y1)) else (bd (Y1.1.1 11) 300 (nm (Y1.2.2 0 (Int.toNat (Y1.1.1 11))) fun x3 => nm (-1) fun x4 => cls (fX2_lies Y1 x3) (fun u => u) fun r6 Y5 => cb r6 (nm ((setI Y5.1 17 r6, Y5.2)) fun Y7 => if wr (Y7.1.1 17) = 0 then (cls (fX2_bring Y7 x3) (fun u => u) fun r9 Y8 => nm r9 fun x10 => fX2_step_j61 x3 x10 Y8) else (clv (fX2_meet Y7 x3) (fun u => u) fun Y11 => fX2_step_j61 x3 x4 Y11))))
def fX2_missesBy_j44 (v3 : Int) (Y : St × St) : Option (Int × (St × St)) := some (v3, Y)
def fX2_missesBy_j38 (k_11 : Int → Int → (St × St) → Option (Int × (St × St))) (v3 v4 : Int) (Y : St × St) : Option (Int × (St × St)) := nm (v4 + 1) fun x101 => k_11 v3 x101 Y
def fX2_missesBy_l11 : Nat → Int → Int → (St × St) → Option (Int × (St × St))
  | 0 => fun _ _ _ => none
  | n + 1 => fun v3 v4 Y => if wr (Y.2.1 4) ≤ wr v4 then (fX2_missesBy_j44 v3 Y) else (cls (fX2_step Y) (fun u => u) fun r103 Y102 => if wr (Y102.1.1 17) = 0 then (nm (v3 + 1) fun x104 => fX2_missesBy_j38 (fX2_missesBy_l11 n) x104 v4 Y102) else (fX2_missesBy_j38 (fX2_missesBy_l11 n) v3 v4 Y102))
def fX2_missesBy (Y : St × St) (a0 a1 : Int) : Option (Int × (St × St)) := clv (fX2_begin Y a0 a1) (fun u => u) fun Y1 => nm 0 fun x2 => nm 0 fun x3 => fX2_missesBy_l11 FU x2 x3 Y1
def fX2_standBehind_l27 : Nat → Int → Int → (St × St) → Option (St × St)
  | 0 => fun _ _ _ => none
  | n + 1 => fun v1 v2 Y => if wr v1 < wr v2 then (some Y) else (cls (fX2_step Y) (fun u => u) fun r102 Y101 => nm (v2 + 1) fun x103 => (fX2_standBehind_l27 n) v1 x103 Y101)
def fX2_standBehind_j22 (v1 : Int) (Y : St × St) : Option (St × St) := nm (Y.1.1 11) fun x104 => fX2_standBehind_l27 FU v1 x104 Y
def fX2_standBehind (Y : St × St) (a0 : Int) : Option (St × St) := if wr (Y.1.1 11) ≤ wr (a0 + 1) then (fX2_standBehind_j22 a0 Y) else (clv (fX2_begin Y (Y.1.1 9) (Y.1.1 10)) (fun u => u) fun Y1 => fX2_standBehind_j22 a0 Y1)
def fX2_leastAbsent_j24 (v1 : Int) (Y : St × St) : Option (Int × (St × St)) := some (v1, Y)
def fX2_leastAbsent_l2 : Nat → Int → (St × St) → Option (Int × (St × St))
  | 0 => fun _ _ => none
  | n + 1 => fun v1 Y => if wr (Y.1.1 10) ≤ wr v1 then (fX2_leastAbsent_j24 v1 Y) else (cls (fX2_lies Y v1) (fun u => u) fun r102 Y101 => if wr r102 = 0 then (fX2_leastAbsent_j24 v1 Y101) else (nm (v1 + 1) fun x103 => (fX2_leastAbsent_l2 n) x103 Y101))
def fX2_leastAbsent (Y : St × St) : Option (Int × (St × St)) := nm 0 fun x1 => fX2_leastAbsent_l2 FU x1 Y
def fX2_knowsOfThing_j87 (s0 : Int) (Y : St × St) : Option (Int × (St × St)) := cb s0 (some (s0, Y))
def fX2_knowsOfThing_j67 (s0 : Int) (Y : St × St) : Option (Int × (St × St)) := cb s0 (some (s0, Y))
def fX2_knowsOfThing_j53 (s0 : Int) (Y : St × St) : Option (Int × (St × St)) := cb s0 (some (s0, Y))
def fX2_knowsOfThing_j48 (Y : St × St) : Option (Int × (St × St)) := fX2_knowsOfThing_j53 1 Y
def fX2_knowsOfThing (Y : St × St) (a0 : Int) : Option (Int × (St × St)) := if wr a0 = 2 then (if wr (Y.1.1 9) = wr 2 then (fX2_knowsOfThing_j48  Y) else (if wr (Y.1.1 9) = wr 3 then (fX2_knowsOfThing_j48  Y) else (fX2_knowsOfThing_j53 0 Y))) else (if wr a0 = 3 then (if wr (Y.1.1 9) = wr 3 then (fX2_knowsOfThing_j67 1 Y) else (fX2_knowsOfThing_j67 0 Y)) else (if wr a0 = 4 then (cls (fX2_hasBooks Y) (fun u => u) fun r5 Y4 => cb r5 (some (r5, Y4))) else (if wr a0 = 5 then (if wr (Y.1.1 9) = wr 7 then (fX2_knowsOfThing_j87 1 Y) else (fX2_knowsOfThing_j87 0 Y)) else (cb 1 (some (1, Y))))))
def fX2_tellOfThing_j122 (s0 : Int) (Y : St × St) : Option (Int × (St × St)) := some (s0, Y)
def fX2_tellOfThing_j96 (s0 : Int) (Y : St × St) : Option (Int × (St × St)) := some (s0, Y)
def fX2_tellOfThing_j68 (s0 : Int) (Y : St × St) : Option (Int × (St × St)) := some (s0, Y)
def fX2_tellOfThing_j49 (s0 : Int) (Y : St × St) : Option (Int × (St × St)) := some (s0, Y)
def fX2_tellOfThing (Y : St × St) (a0 a1 : Int) : Option (Int × (St × St)) := if wr a1 = 0 then (cls (fX2_lies Y a0) (fun u => u) fun r3 Y2 => if wr r3 = 0 then (fX2_tellOfThing_j49 0 Y2) else (fX2_tellOfThing_j49 1 Y2)) else (if wr a1 = 1 then (cls (fX2_lies Y a0) (fun u => u) fun r6 Y5 => if wr r6 = 0 then (fX2_tellOfThing_j68 0 Y5) else (bd a0 16 (fX2_tellOfThing_j68 ((Y5.1.2 5 (Int.toNat a0))) Y5))) else (if wr a1 = 2 then (some ((andI (shrI (Y.1.1 12) a0) 1), Y)) else (if wr a1 = 3 then (cls (fX2_lies Y a0) (fun u => u) fun r10 Y9 => if wr r10 = 0 then (fX2_tellOfThing_j96 ((-1)) Y9) else (bd a0 16 (fX2_tellOfThing_j96 ((Y9.1.2 7 (Int.toNat a0))) Y9))) else (if wr a1 = 4 then (bd a0 16 (some ((Y.1.2 1 (Int.toNat a0)), Y))) else (cls (fX2_lies Y a0) (fun u => u) fun r13 Y12 => if wr r13 = 0 then (fX2_tellOfThing_j122 0 Y12) else (bd a0 16 (fX2_tellOfThing_j122 ((Y12.1.2 6 (Int.toNat a0))) Y12)))))))
def fX2_knowsOfAll_j89 (s0 : Int) (Y : St × St) : Option (Int × (St × St)) := cb s0 (some (s0, Y))
def fX2_knowsOfAll_j74 (s0 : Int) (Y : St × St) : Option (Int × (St × St)) := cb s0 (some (s0, Y))
def fX2_knowsOfAll_j59 (s0 : Int) (Y : St × St) : Option (Int × (St × St)) := cb s0 (some (s0, Y))
def fX2_knowsOfAll_j45 (s0 : Int) (Y : St × St) : Option (Int × (St × St)) := cb s0 (some (s0, Y))
def fX2_knowsOfAll (Y : St × St) (a0 : Int) : Option (Int × (St × St)) := if wr a0 = 1 then (if wr (Y.1.1 9) = wr 2 then (fX2_knowsOfAll_j45 1 Y) else (fX2_knowsOfAll_j45 0 Y)) else (if wr a0 = 2 then (if wr (Y.1.1 9) = wr 3 then (fX2_knowsOfAll_j59 1 Y) else (fX2_knowsOfAll_j59 0 Y)) else (if wr a0 = 3 then (if wr (Y.1.1 9) = wr 6 then (fX2_knowsOfAll_j74 1 Y) else (fX2_knowsOfAll_j74 0 Y)) else (if wr a0 = 4 then (if wr (Y.1.1 9) = wr 7 then (fX2_knowsOfAll_j89 1 Y) else (fX2_knowsOfAll_j89 0 Y)) else (cb 1 (some (1, Y))))))
def fX2_tellOfAll (Y : St × St) (a0 : Int) : Option (Int × (St × St)) := if wr a0 = 1 then (some ((Y.1.1 13), Y)) else (if wr a0 = 2 then (some ((Y.1.1 14), Y)) else (if wr a0 = 3 then (some ((Y.1.1 15), Y)) else (if wr a0 = 4 then (some ((Y.1.1 16), Y)) else (cls (fX2_lying Y) (fun u => u) fun r6 Y5 => some (r6, Y5)))))
def fX3_isThing_j15 (s0 : Int) : Option Int := cb s0 (some s0)
def fX3_isThing_j14 : Option Int := fX3_isThing_j15 0
def fX3_isThing (a0 : Int) : Option Int := if wr a0 < 0 then (fX3_isThing_j14) else (if wr 16 ≤ wr a0 then (fX3_isThing_j14) else (fX3_isThing_j15 1))
def fX3_forget (Y : St × St × St × St × St) : Option (St × St × St × St × St) := cb 0 (nm ((setI Y.1 11 0, Y.2)) fun Y1 => nm ((Y1.1, Y1.2.1, Y1.2.2.1, Y1.2.2.2.1, setI Y1.2.2.2.2 10 0)) fun Y2 => some Y2)
def fX3_price_j19 (Y : St × St × St × St × St) : Option (Int × (St × St × St × St × St)) := some ((-1), Y)
def fX3_price (Y : St × St × St × St × St) (a0 a1 : Int) : Option (Int × (St × St × St × St × St)) := clp (fX3_isThing a0) fun r1 => if wr r1 = 0 then (fX3_price_j19  Y) else (if wr a1 < wr 1 then (fX3_price_j19  Y) else (if wr a1 ≤ wr 1000 then (bd a0 16 (nm ((Y.1, setA Y.2.1 1 (Int.toNat a0) a1, Y.2.2)) fun Y2 => clv (fX3_forget Y2) (fun u => u) fun Y3 => some (1, Y3))) else (fX3_price_j19  Y)))
def fX3_ask_j131 (Y : St × St × St × St × St) : Option (Int × (St × St × St × St × St)) := clv (fX3_forget Y) (fun u => u) fun Y101 => some ((Y101.2.1.1 4), Y101)
def fX3_ask_l104 : Nat → Int → Int → (St × St × St × St × St) → Option (Int × (St × St × St × St × St))
  | 0 => fun _ _ _ => none
  | n + 1 => fun v6 v7 Y => if wr v6 ≤ wr v7 then (fX3_ask_j131  Y) else (bd v7 5 (clv (fX1_append Y.2.1 (Y.1.2 4 (Int.toNat v7))) (fun u => (Y.1, u, Y.2.2)) fun Y102 => nm (v7 + 1) fun x103 => (fX3_ask_l104 n) v6 x103 Y102))
def fX3_ask_j82 (v6 : Int) (Y : St × St × St × St × St) : Option (Int × (St × St × St × St × St)) := if wr ((Y.2.1.1 4) + v6) ≤ wr 300 then (nm 0 fun x104 => fX3_ask_l104 FU v6 x104 Y) else (some ((-2), Y))
def fX3_ask_l40 : Nat → Int → (St × St × St × St × St) → Option (Int × (St × St × St × St × St))
  | 0 => fun _ _ => none
  | n + 1 => fun v6 Y => if wr 5 ≤ wr v6 then (fX3_ask_j82 v6 Y) else (bd v6 5 (if wr (Y.1.2 4 (Int.toNat v6)) = wr (-1) then (fX3_ask_j82 v6 Y) else (bd v6 5 (clp (fX3_isThing (Y.1.2 4 (Int.toNat v6))) fun r105 => if wr r105 = 0 then (some ((-1), Y)) else (nm (v6 + 1) fun x106 => (fX3_ask_l40 n) x106 Y)))))
def fX3_ask (Y : St × St × St × St × St) (a0 a1 a2 a3 a4 : Int) : Option (Int × (St × St × St × St × St)) := bd 0 5 (nm ((setA Y.1 4 (Int.toNat 0) a0, Y.2)) fun Y1 => bd 1 5 (nm ((setA Y1.1 4 (Int.toNat 1) a1, Y1.2)) fun Y2 => bd 2 5 (nm ((setA Y2.1 4 (Int.toNat 2) a2, Y2.2)) fun Y3 => bd 3 5 (nm ((setA Y3.1 4 (Int.toNat 3) a3, Y3.2)) fun Y4 => bd 4 5 (nm ((setA Y4.1 4 (Int.toNat 4) a4, Y4.2)) fun Y5 => nm 0 fun x6 => fX3_ask_l40 FU x6 Y5)))))
def fX3_draw_j85 (Y : St × St × St × St × St) : Option (Int × (St × St × St × St × St)) := clv (fX3_forget Y) (fun u => u) fun Y101 => some ((Y101.2.1.1 4), Y101)
def fX3_draw_l48 : Nat → Int → Int → Int → Int → (St × St × St × St × St) → Option (Int × (St × St × St × St × St))
  | 0 => fun _ _ _ _ _ => none
  | n + 1 => fun v1 v2 v4 v5 Y => if wr v1 ≤ wr v5 then (fX3_draw_j85  Y) else (nm ((1103515245 * v4) + 12345) fun x102 => cz v2 (clv (fX1_append Y.2.1 (remI (ushrI x102 16) v2)) (fun u => (Y.1, u, Y.2.2)) fun Y103 => nm (v5 + 1) fun x104 => (fX3_draw_l48 n) v1 v2 x102 x104 Y103))
def fX3_draw_j22 (Y : St × St × St × St × St) : Option (Int × (St × St × St × St × St)) := some ((-1), Y)
def fX3_draw (Y : St × St × St × St × St) (a0 a1 a2 : Int) : Option (Int × (St × St × St × St × St)) := if wr a0 < 0 then (fX3_draw_j22  Y) else (if wr 300 < wr a0 then (fX3_draw_j22  Y) else (if wr a1 < wr 1 then (fX3_draw_j22  Y) else (if wr a1 ≤ wr 16 then (if wr ((Y.2.1.1 4) + a0) ≤ wr 300 then (nm a2 fun x1 => nm 0 fun x2 => fX3_draw_l48 FU a0 a1 x1 x2 Y) else (some ((-2), Y))) else (fX3_draw_j22  Y))))
def fX3_change_j18 (Y : St × St × St × St × St) : Option (Int × (St × St × St × St × St)) := some ((-1), Y)
def fX3_change (Y : St × St × St × St × St) (a0 a1 : Int) : Option (Int × (St × St × St × St × St)) := cls (fX1_has Y.2.1 a0) (fun u => (Y.1, u, Y.2.2)) fun r2 Y1 => if wr r2 = 0 then (fX3_change_j18  Y1) else (clp (fX3_isThing a1) fun r3 => if wr r3 = 0 then (fX3_change_j18  Y1) else (bd a0 300 (nm ((Y1.1, setA Y1.2.1 0 (Int.toNat a0) a1, Y1.2.2)) fun Y4 => clv (fX3_forget Y4) (fun u => u) fun Y5 => some (1, Y5))))
def fX3_cut_j15 (Y : St × St × St × St × St) : Option (Int × (St × St × St × St × St)) := some ((-1), Y)
def fX3_cut (Y : St × St × St × St × St) (a0 : Int) : Option (Int × (St × St × St × St × St)) := if wr a0 < 0 then (fX3_cut_j15  Y) else (if wr a0 ≤ wr (Y.2.1.1 4) then (nm ((Y.1, setI Y.2.1 4 a0, Y.2.2)) fun Y1 => clv (fX3_forget Y1) (fun u => u) fun Y2 => some (a0, Y2)) else (fX3_cut_j15  Y))
def fX3_asked_j24 (s0 : Int) (Y : St × St × St × St × St) : Option (Int × (St × St × St × St × St)) := some (s0, Y)
def fX3_asked (Y : St × St × St × St × St) (a0 : Int) : Option (Int × (St × St × St × St × St)) := cls (fX1_has Y.2.1 a0) (fun u => (Y.1, u, Y.2.2)) fun r2 Y1 => if wr r2 = 0 then (fX3_asked_j24 ((-1)) Y1) else (bd a0 300 (fX3_asked_j24 ((Y1.2.1.2 0 (Int.toNat a0))) Y1))
def fX3_many (Y : St × St × St × St × St) (a0 : Int) : Option (Int × (St × St × St × St × St)) := if wr a0 = 0 then (some ((Y.2.1.1 4), Y)) else (if wr a0 = 1 then (cls (fX1_unlike Y.2.1) (fun u => (Y.1, u, Y.2.2)) fun r4 Y3 => some (r4, Y3)) else (if wr a0 = 2 then (some ((Y.1.1 8), Y)) else (if wr a0 = 3 then (cls (fX1_priceOfAll Y.2.1) (fun u => (Y.1, u, Y.2.2)) fun r8 Y7 => some (r8, Y7)) else (some ((-1), Y)))))
def fX3_isWay_j15 (s0 : Int) : Option Int := cb s0 (some s0)
def fX3_isWay_j14 : Option Int := fX3_isWay_j15 0
def fX3_isWay (a0 : Int) : Option Int := if wr a0 < 0 then (fX3_isWay_j14) else (if wr 8 < wr a0 then (fX3_isWay_j14) else (fX3_isWay_j15 1))
def fX3_isPlaces_j16 (s0 : Int) : Option Int := cb s0 (some s0)
def fX3_isPlaces_j15 : Option Int := fX3_isPlaces_j16 0
def fX3_isPlaces (a0 : Int) : Option Int := if wr a0 < wr 1 then (fX3_isPlaces_j15) else (if wr 8 < wr a0 then (fX3_isPlaces_j15) else (fX3_isPlaces_j16 1))
def fX3_serve_j125 (Y : St × St × St × St × St) : Option (Int × (St × St × St × St × St)) := cb 1 (nm ((setI Y.1 11 1, Y.2)) fun Y101 => some ((Y101.1.1 9), Y101))
def fX3_serve_j119 (k_37 : Int → (St × St × St × St × St) → Option (Int × (St × St × St × St × St))) (v3 : Int) (Y : St × St × St × St × St) : Option (Int × (St × St × St × St × St)) := nm (v3 + 1) fun x102 => k_37 x102 Y
def fX3_serve_j81 (k_37 : Int → (St × St × St × St × St) → Option (Int × (St × St × St × St × St))) (v3 s0 s1 : Int) (Y : St × St × St × St × St) : Option (Int × (St × St × St × St × St)) := bd s1 300 (nm ((setA Y.1 6 (Int.toNat s1) s0, Y.2)) fun Y103 => if wr (Y103.2.2.1.1 17) = 0 then (nm ((setI Y103.1 9 ((Y103.1.1 9) + 1), Y103.2)) fun Y104 => cls (fX1_priceAt Y104.2.1 v3) (fun u => (Y104.1, u, Y104.2.2)) fun r106 Y105 => nm ((setI Y105.1 10 ((Y104.1.1 10) + r106), Y105.2)) fun Y107 => fX3_serve_j119 k_37 v3 Y107) else (fX3_serve_j119 k_37 v3 Y103))
def fX3_serve_l37 : Nat → Int → (St × St × St × St × St) → Option (Int × (St × St × St × St × St))
  | 0 => fun _ _ => none
  | n + 1 => fun v3 Y => if wr (Y.2.1.1 4) ≤ wr v3 then (fX3_serve_j125  Y) else (cls (fX2_step (Y.2.2.1, Y.2.1)) (fun u => (Y.1, u.2, u.1, Y.2.2.2)) fun r109 Y108 => bd v3 300 (nm ((setA Y108.1 7 (Int.toNat v3) r109, Y108.2)) fun Y110 => if wr (Y110.2.2.1.1 17) = 0 then (fX3_serve_j81 (fX3_serve_l37 n) v3 0 v3 Y110) else (fX3_serve_j81 (fX3_serve_l37 n) v3 1 v3 Y110)))
def fX3_serve_j14 (Y : St × St × St × St × St) : Option (Int × (St × St × St × St × St)) := some ((-1), Y)
def fX3_serve (Y : St × St × St × St × St) (a0 a1 : Int) : Option (Int × (St × St × St × St × St)) := clp (fX3_isWay a0) fun r1 => if wr r1 = 0 then (fX3_serve_j14  Y) else (clp (fX3_isPlaces a1) fun r2 => if wr r2 = 0 then (fX3_serve_j14  Y) else (clv (fX2_begin (Y.2.2.1, Y.2.1) a0 a1) (fun u => (Y.1, u.2, u.1, Y.2.2.2)) fun Y3 => nm ((setI Y3.1 9 0, Y3.2)) fun Y4 => nm ((setI Y4.1 10 0, Y4.2)) fun Y5 => nm 0 fun x6 => fX3_serve_l37 FU x6 Y5))
def fX3_paid_j16 (s0 : Int) (Y : St × St × St × St × St) : Option (Int × (St × St × St × St × St)) := some (s0, Y)
def fX3_paid (Y : St × St × St × St × St) : Option (Int × (St × St × St × St × St)) := if wr (Y.1.1 11) = 0 then (fX3_paid_j16 ((-3)) Y) else (fX3_paid_j16 ((Y.1.1 10)) Y)
def fX3_hit_j31 (s0 : Int) (Y : St × St × St × St × St) : Option (Int × (St × St × St × St × St)) := some (s0, Y)
def fX3_hit (Y : St × St × St × St × St) (a0 : Int) : Option (Int × (St × St × St × St × St)) := if wr (Y.1.1 11) = 0 then (some ((-3), Y)) else (cls (fX1_has Y.2.1 a0) (fun u => (Y.1, u, Y.2.2)) fun r2 Y1 => if wr r2 = 0 then (fX3_hit_j31 ((-1)) Y1) else (bd a0 300 (fX3_hit_j31 ((Y1.1.2 6 (Int.toNat a0))) Y1)))
def fX3_gone_j28 (s0 : Int) (Y : St × St × St × St × St) : Option (Int × (St × St × St × St × St)) := some (s0, Y)
def fX3_gone_j27 (Y : St × St × St × St × St) : Option (Int × (St × St × St × St × St)) := fX3_gone_j28 ((-1)) Y
def fX3_gone (Y : St × St × St × St × St) (a0 : Int) : Option (Int × (St × St × St × St × St)) := if wr (Y.1.1 11) = 0 then (fX3_gone_j27  Y) else (cls (fX1_has Y.2.1 a0) (fun u => (Y.1, u, Y.2.2)) fun r2 Y1 => if wr r2 = 0 then (fX3_gone_j27  Y1) else (bd a0 300 (fX3_gone_j28 ((Y1.1.2 7 (Int.toNat a0))) Y1)))
def fX3_look_j37 (Y : St × St × St × St × St) : Option (Int × (St × St × St × St × St)) := some ((-2147483648), Y)
def fX3_look (Y : St × St × St × St × St) (a0 a1 a2 : Int) : Option (Int × (St × St × St × St × St)) := if wr (Y.1.1 11) = 0 then (some ((-3), Y)) else (cls (fX1_has Y.2.1 a0) (fun u => (Y.1, u, Y.2.2)) fun r2 Y1 => if wr r2 = 0 then (fX3_look_j37  Y1) else (clp (fX3_isThing a1) fun r3 => if wr r3 = 0 then (fX3_look_j37  Y1) else (if wr a2 < 0 then (fX3_look_j37  Y1) else (if wr a2 ≤ wr 5 then (cls (fX2_knowsOfThing (Y1.2.2.1, Y1.2.1) a2) (fun u => (Y1.1, u.2, u.1, Y1.2.2.2)) fun r5 Y4 => if wr r5 = 0 then (some ((-2147483647), Y4)) else (clv (fX2_standBehind (Y4.2.2.1, Y4.2.1) a0) (fun u => (Y4.1, u.2, u.1, Y4.2.2.2)) fun Y6 => cls (fX2_tellOfThing (Y6.2.2.1, Y6.2.1) a1 a2) (fun u => (Y6.1, u.2, u.1, Y6.2.2.2)) fun r8 Y7 => some (r8, Y7))) else (fX3_look_j37  Y1)))))
def fX3_level_j30 (Y : St × St × St × St × St) : Option (Int × (St × St × St × St × St)) := some ((-2147483648), Y)
def fX3_level (Y : St × St × St × St × St) (a0 a1 : Int) : Option (Int × (St × St × St × St × St)) := if wr (Y.1.1 11) = 0 then (some ((-3), Y)) else (cls (fX1_has Y.2.1 a0) (fun u => (Y.1, u, Y.2.2)) fun r2 Y1 => if wr r2 = 0 then (fX3_level_j30  Y1) else (if wr a1 < 0 then (fX3_level_j30  Y1) else (if wr a1 ≤ wr 4 then (cls (fX2_knowsOfAll (Y1.2.2.1, Y1.2.1) a1) (fun u => (Y1.1, u.2, u.1, Y1.2.2.2)) fun r4 Y3 => if wr r4 = 0 then (some ((-2147483647), Y3)) else (clv (fX2_standBehind (Y3.2.2.1, Y3.2.1) a0) (fun u => (Y3.1, u.2, u.1, Y3.2.2.2)) fun Y5 => cls (fX2_tellOfAll (Y5.2.2.1, Y5.2.1) a1) (fun u => (Y5.1, u.2, u.1, Y5.2.2.2)) fun r7 Y6 => some (r7, Y6))) else (fX3_level_j30  Y1))))
def fX3_fewest_j61 (v2 : Int) (Y : St × St × St × St × St) : Option (Int × (St × St × St × St × St)) := some (v2, Y)
def fX3_fewest_j55 (k_24 : Int → Int → Int → Int → (St × St × St × St × St) → Option (Int × (St × St × St × St × St))) (v1 v2 v3 v4 : Int) (Y : St × St × St × St × St) : Option (Int × (St × St × St × St × St)) := nm (v4 + 1) fun x101 => k_24 v1 v2 v3 x101 Y
def fX3_fewest_l24 : Nat → Int → Int → Int → Int → (St × St × St × St × St) → Option (Int × (St × St × St × St × St))
  | 0 => fun _ _ _ _ _ => none
  | n + 1 => fun v1 v2 v3 v4 Y => if wr 8 ≤ wr v4 then (fX3_fewest_j61 v2 Y) else (cls (fX2_missesBy (Y.2.2.2.1, Y.2.1) v4 v1) (fun u => (Y.1, u.2, Y.2.2.1, u.1, Y.2.2.2.2)) fun r103 Y102 => nm r103 fun x104 => if wr v3 ≤ wr x104 then (fX3_fewest_j55 (fX3_fewest_l24 n) v1 v2 v3 v4 Y102) else (nm v4 fun x105 => nm x104 fun x106 => fX3_fewest_j55 (fX3_fewest_l24 n) v1 x105 x106 v4 Y102))
def fX3_fewest (Y : St × St × St × St × St) (a0 : Int) : Option (Int × (St × St × St × St × St)) := clp (fX3_isPlaces a0) fun r1 => if wr r1 = 0 then (some ((-1), Y)) else (nm 0 fun x2 => cls (fX2_missesBy (Y.2.2.2.1, Y.2.1) 0 a0) (fun u => (Y.1, u.2, Y.2.2.1, u.1, Y.2.2.2.2)) fun r4 Y3 => nm r4 fun x5 => nm 1 fun x6 => fX3_fewest_l24 FU a0 x2 x5 x6 Y3)
def fX3_share (Y : St × St × St × St × St) : Option (Int × (St × St × St × St × St)) := if wr (Y.1.1 11) = 0 then (some ((-3), Y)) else (if wr 1 ≤ wr (Y.2.1.1 4) then (nm ((Y.2.1.1 4) - (Y.1.1 9)) fun x1 => cf (FP.fdiv (FP.i2f (iz x1)) (FP.i2f (iz (Y.2.1.1 4)))) (cf (FP.fmul (FP.fdiv (FP.i2f (iz x1)) (FP.i2f (iz (Y.2.1.1 4)))) 1176256512) (some ((f2iI (FP.fmul (FP.fdiv (FP.i2f (iz x1)) (FP.i2f (iz (Y.2.1.1 4)))) 1176256512)), Y)))) else (some ((-1), Y)))
def fX3_least (Y : St × St × St × St × St) (a0 : Int) : Option (Int × (St × St × St × St × St)) := clp (fX3_isPlaces a0) fun r1 => if wr r1 = 0 then (some ((-1), Y)) else (cls (fX1_unlike Y.2.1) (fun u => (Y.1, u, Y.2.2)) fun r3 Y2 => if wr r3 ≤ wr 10 then (clv (fX0_prepare (Y2.2.2.2.2, Y2.2.1) a0) (fun u => (Y2.1, u.2, Y2.2.2.1, Y2.2.2.2.1, u.1)) fun Y4 => some ((Y4.2.2.2.2.1 11), Y4)) else (some ((-5), Y2)))
def fX3_goes_j30 (Y : St × St × St × St × St) : Option (Int × (St × St × St × St × St)) := some ((-1), Y)
def fX3_goes (Y : St × St × St × St × St) (a0 a1 : Int) : Option (Int × (St × St × St × St × St)) := cls (fX1_has Y.2.1 a1) (fun u => (Y.1, u, Y.2.2)) fun r2 Y1 => if wr r2 = 0 then (fX3_goes_j30  Y1) else (clp (fX3_isPlaces a0) fun r3 => if wr r3 = 0 then (fX3_goes_j30  Y1) else (cls (fX1_unlike Y1.2.1) (fun u => (Y1.1, u, Y1.2.2)) fun r5 Y4 => if wr r5 ≤ wr 10 then (clv (fX0_prepare (Y4.2.2.2.2, Y4.2.1) a0) (fun u => (Y4.1, u.2, Y4.2.2.1, Y4.2.2.2.1, u.1)) fun Y6 => bd a1 300 (some ((Y6.2.2.2.2.2 7 (Int.toNat a1)), Y6))) else (fX3_goes_j30  Y4)))
def fX3_phases_j43 (s0 : Int) (Y : St × St × St × St × St) : Option (Int × (St × St × St × St × St)) := some (s0, Y)
def fX3_phases (Y : St × St × St × St × St) (a0 : Int) : Option (Int × (St × St × St × St × St)) := clp (fX3_isPlaces a0) fun r1 => if wr r1 = 0 then (some ((-1), Y)) else (if wr 1 ≤ wr (Y.2.1.1 4) then (cls (fX1_phaseAt Y.2.1 a0 ((Y.2.1.1 4) - 1)) (fun u => (Y.1, u, Y.2.2)) fun r3 Y2 => fX3_phases_j43 ((r3 + 1)) Y2) else (fX3_phases_j43 0 Y))
def fX3_phase_j31 (s0 : Int) (Y : St × St × St × St × St) : Option (Int × (St × St × St × St × St)) := some (s0, Y)
def fX3_phase_j30 (Y : St × St × St × St × St) : Option (Int × (St × St × St × St × St)) := fX3_phase_j31 ((-1)) Y
def fX3_phase (Y : St × St × St × St × St) (a0 a1 : Int) : Option (Int × (St × St × St × St × St)) := cls (fX1_has Y.2.1 a1) (fun u => (Y.1, u, Y.2.2)) fun r2 Y1 => if wr r2 = 0 then (fX3_phase_j30  Y1) else (clp (fX3_isPlaces a0) fun r3 => if wr r3 = 0 then (fX3_phase_j30  Y1) else (cls (fX1_phaseAt Y1.2.1 a0 a1) (fun u => (Y1.1, u, Y1.2.2)) fun r5 Y4 => fX3_phase_j31 r5 Y4))
def fX3_distance_j23 (s0 : Int) (Y : St × St × St × St × St) : Option (Int × (St × St × St × St × St)) := some (s0, Y)
def fX3_distance (Y : St × St × St × St × St) (a0 : Int) : Option (Int × (St × St × St × St × St)) := cls (fX1_has Y.2.1 a0) (fun u => (Y.1, u, Y.2.2)) fun r2 Y1 => if wr r2 = 0 then (fX3_distance_j23 ((-1)) Y1) else (cls (fX1_distanceAt Y1.2.1 a0) (fun u => (Y1.1, u, Y1.2.2)) fun r4 Y3 => fX3_distance_j23 r4 Y3)
def fX3_curve_j51 (v2 : Int) (Y : St × St × St × St × St) : Option (Int × (St × St × St × St × St)) := some (v2, Y)
def fX3_curve_j45 (k_10 : Int → Int → Int → (St × St × St × St × St) → Option (Int × (St × St × St × St × St))) (v1 v2 v3 : Int) (Y : St × St × St × St × St) : Option (Int × (St × St × St × St × St)) := nm (v3 + 1) fun x101 => k_10 v1 v2 x101 Y
def fX3_curve_j42 (k_10 : Int → Int → Int → (St × St × St × St × St) → Option (Int × (St × St × St × St × St))) (v1 v2 v3 : Int) (Y : St × St × St × St × St) : Option (Int × (St × St × St × St × St)) := nm (v2 + 1) fun x102 => fX3_curve_j45 k_10 v1 x102 v3 Y
def fX3_curve_l10 : Nat → Int → Int → Int → (St × St × St × St × St) → Option (Int × (St × St × St × St × St))
  | 0 => fun _ _ _ _ => none
  | n + 1 => fun v1 v2 v3 Y => if wr (Y.2.1.1 4) ≤ wr v3 then (fX3_curve_j51 v2 Y) else (cls (fX1_distanceAt Y.2.1 v3) (fun u => (Y.1, u, Y.2.2)) fun r104 Y103 => nm r104 fun x105 => if wr x105 = 0 then (fX3_curve_j42 (fX3_curve_l10 n) v1 v2 v3 Y103) else (if wr x105 ≤ wr v1 then (fX3_curve_j45 (fX3_curve_l10 n) v1 v2 v3 Y103) else (fX3_curve_j42 (fX3_curve_l10 n) v1 v2 v3 Y103)))
def fX3_curve (Y : St × St × St × St × St) (a0 : Int) : Option (Int × (St × St × St × St × St)) := if 0 ≤ wr a0 then (nm 0 fun x1 => nm 0 fun x2 => fX3_curve_l10 FU a0 x1 x2 Y) else (some ((-1), Y))
def fX3_hard_j90 (v3 : Int) (Y : St × St × St × St × St) : Option (Int × (St × St × St × St × St)) := clv (fX3_forget Y) (fun u => u) fun Y101 => some (v3, Y101)
def fX3_hard_l56 : Nat → Int → Int → (St × St × St × St × St) → Option (Int × (St × St × St × St × St))
  | 0 => fun _ _ _ => none
  | n + 1 => fun v3 v4 Y => if wr v3 ≤ wr v4 then (fX3_hard_j90 v3 Y) else (cls (fX2_leastAbsent (Y.2.2.2.1, Y.2.1)) (fun u => (Y.1, u.2, Y.2.2.1, u.1, Y.2.2.2.2)) fun r103 Y102 => clv (fX1_append Y102.2.1 r103) (fun u => (Y102.1, u, Y102.2.2)) fun Y104 => cls (fX2_step (Y104.2.2.2.1, Y104.2.1)) (fun u => (Y104.1, u.2, Y104.2.2.1, u.1, Y104.2.2.2.2)) fun r106 Y105 => nm (v4 + 1) fun x107 => (fX3_hard_l56 n) v3 x107 Y105)
def fX3_hard_j25 (Y : St × St × St × St × St) : Option (Int × (St × St × St × St × St)) := some ((-1), Y)
def fX3_hard (Y : St × St × St × St × St) (a0 a1 a2 : Int) : Option (Int × (St × St × St × St × St)) := clp (fX3_isWay a0) fun r1 => if wr r1 = 0 then (fX3_hard_j25  Y) else (clp (fX3_isPlaces a1) fun r2 => if wr r2 = 0 then (fX3_hard_j25  Y) else (if wr a2 < 0 then (fX3_hard_j25  Y) else (if wr a2 ≤ wr 300 then (if wr a0 = wr 8 then (some ((-4), Y)) else (nm ((Y.1, setI Y.2.1 4 0, Y.2.2)) fun Y3 => clv (fX2_begin (Y3.2.2.2.1, Y3.2.1) a0 a1) (fun u => (Y3.1, u.2, Y3.2.2.1, u.1, Y3.2.2.2.2)) fun Y4 => nm 0 fun x5 => fX3_hard_l56 FU a2 x5 Y4)) else (fX3_hard_j25  Y))))
def fX3_claim_j14 (v1 : Int) (Y : St × St × St × St × St) : Option (Int × (St × St × St × St × St)) := if wr (Y.1.1 8) < wr 300 then (bd (Y.1.1 8) 300 (nm ((setA Y.1 5 (Int.toNat (Y.1.1 8)) v1, Y.2)) fun Y101 => nm ((setI Y101.1 8 ((Y101.1.1 8) + 1), Y101.2)) fun Y102 => some ((Y102.1.1 8), Y102))) else (some ((-2), Y))
def fX3_claim (Y : St × St × St × St × St) (a0 : Int) : Option (Int × (St × St × St × St × St)) := if wr a0 = wr (-1) then (fX3_claim_j14 a0 Y) else (clp (fX3_isThing a0) fun r1 => if wr r1 = 0 then (some ((-1), Y)) else (fX3_claim_j14 a0 Y))
def fX3_copy (Y : St × St × St × St × St) : Option (Int × (St × St × St × St × St)) := if wr (Y.1.1 11) = 0 then (some ((-3), Y)) else (bd (Y.2.1.1 4) 301 (nm ((setR Y.1 5 (fun j => if j < Int.toNat (Y.2.1.1 4) then Y.1.2 7 j else Y.1.2 5 j), Y.2)) fun Y1 => nm ((setI Y1.1 8 (Y1.2.1.1 4), Y1.2)) fun Y2 => some ((Y2.1.1 8), Y2)))
def fX3_unclaim (Y : St × St × St × St × St) : Option (Int × (St × St × St × St × St)) := nm (Y.1.1 8) fun x1 => nm ((setI Y.1 8 0, Y.2)) fun Y2 => some (x1, Y2)
def fX3_canGo_j57 (s0 : Int) : Option Int := cb s0 (some s0)
def fX3_canGo_j56 : Option Int := fX3_canGo_j57 0
def fX3_canGo_j36 (s0 : Int) : Option Int := cb s0 (some s0)
def fX3_canGo_j19 (v0 v1 s0 : Int) : Option Int := nm s0 fun x101 => if wr x101 = 0 then (if wr v0 = wr (-1) then (fX3_canGo_j36 1) else (fX3_canGo_j36 0)) else (clp (fX3_isThing v0) fun r102 => if wr r102 = 0 then (fX3_canGo_j56) else (if wr (andI v1 (shlI 1 v0)) = 0 then (fX3_canGo_j56) else (fX3_canGo_j57 1)))
def fX3_canGo_j18 (v0 v1 : Int) : Option Int := fX3_canGo_j19 v0 v1 0
def fX3_canGo (a0 a1 a2 a3 : Int) : Option Int := if wr (andI a1 a2) = 0 then (clp (fJ6_bitCount_0f7a4 a1) fun r1 => if wr r1 < wr a3 then (fX3_canGo_j18 a0 a1) else (fX3_canGo_j19 a0 a1 1)) else (fX3_canGo_j18 a0 a1)
def fX3_cost_j157 (s0 : Int) (Y : St × St × St × St × St) : Option (Int × (St × St × St × St × St)) := some (s0, Y)
def fX3_cost_j129 (v3 : Int) (Y : St × St × St × St × St) : Option (Int × (St × St × St × St × St)) := if wr (Y.1.1 8) ≤ wr (Y.2.1.1 4) then (fX3_cost_j157 v3 Y) else (fX3_cost_j157 (((-2) - (Y.2.1.1 4))) Y)
def fX3_cost_j118 (k_16 : Int → Int → Int → Int → (St × St × St × St × St) → Option (Int × (St × St × St × St × St))) (v1 v2 v3 v4 v5 : Int) (Y : St × St × St × St × St) : Option (Int × (St × St × St × St × St)) := nm (orI v2 v5) fun x101 => nm (v4 + 1) fun x102 => k_16 v1 x101 v3 x102 Y
def fX3_cost_j93 (k_16 : Int → Int → Int → Int → (St × St × St × St × St) → Option (Int × (St × St × St × St × St))) (v1 v2 v3 v4 v5 : Int) (Y : St × St × St × St × St) : Option (Int × (St × St × St × St × St)) := bd v4 300 (if wr (Y.1.2 5 (Int.toNat v4)) = wr (-1) then (fX3_cost_j118 k_16 v1 v2 v3 v4 v5 Y) else (bd v4 300 (nm (andI v2 (xorI (shlI 1 (Y.1.2 5 (Int.toNat v4))) (-1))) fun x103 => fX3_cost_j118 k_16 v1 x103 v3 v4 v5 Y)))
def fX3_cost_j68 (v4 : Int) (Y : St × St × St × St × St) : Option (Int × (St × St × St × St × St)) := some (((-2) - v4), Y)
def fX3_cost_l16 : Nat → Int → Int → Int → Int → (St × St × St × St × St) → Option (Int × (St × St × St × St × St))
  | 0 => fun _ _ _ _ _ => none
  | n + 1 => fun v1 v2 v3 v4 Y => if wr (Y.2.1.1 4) ≤ wr v4 then (fX3_cost_j129 v3 Y) else (bd v4 300 (nm (shlI 1 (Y.2.1.2 0 (Int.toNat v4))) fun x104 => if wr (Y.1.1 8) ≤ wr v4 then (fX3_cost_j68 v4 Y) else (bd v4 300 (clp (fX3_canGo (Y.1.2 5 (Int.toNat v4)) v2 x104 v1) fun r105 => if wr r105 = 0 then (fX3_cost_j68 v4 Y) else (if wr (andI v2 x104) = 0 then (cls (fX1_priceAt Y.2.1 v4) (fun u => (Y.1, u, Y.2.2)) fun r107 Y106 => nm (v3 + r107) fun x108 => fX3_cost_j93 (fX3_cost_l16 n) v1 v2 x108 v4 x104 Y106) else (fX3_cost_j93 (fX3_cost_l16 n) v1 v2 v3 v4 x104 Y))))))
def fX3_cost (Y : St × St × St × St × St) (a0 : Int) : Option (Int × (St × St × St × St × St)) := clp (fX3_isPlaces a0) fun r1 => if wr r1 = 0 then (some ((-1), Y)) else (nm 0 fun x2 => nm 0 fun x3 => nm 0 fun x4 => fX3_cost_l16 FU a0 x2 x3 x4 Y)
def fX3_check_j96 (s0 : Int) (Y : St × St × St × St × St) : Option (Int × (St × St × St × St × St)) := some (s0, Y)
def fX3_check_j71 (Y : St × St × St × St × St) : Option (Int × (St × St × St × St × St)) := if wr (Y.1.1 8) ≤ wr (Y.2.1.1 4) then (fX3_check_j96 ((-1)) Y) else (fX3_check_j96 ((Y.2.1.1 4)) Y)
def fX3_check_j63 (v3 : Int) (Y : St × St × St × St × St) : Option (Int × (St × St × St × St × St)) := some (v3, Y)
def fX3_check_l28 : Nat → Int → (St × St × St × St × St) → Option (Int × (St × St × St × St × St))
  | 0 => fun _ _ => none
  | n + 1 => fun v3 Y => if wr (Y.2.1.1 4) ≤ wr v3 then (fX3_check_j71  Y) else (if wr (Y.1.1 8) ≤ wr v3 then (fX3_check_j63 v3 Y) else (bd v3 300 (cls (fX2_step (Y.2.2.2.1, Y.2.1)) (fun u => (Y.1, u.2, Y.2.2.1, u.1, Y.2.2.2.2)) fun r102 Y101 => if wr (Y.1.2 5 (Int.toNat v3)) = wr r102 then (nm (v3 + 1) fun x103 => (fX3_check_l28 n) x103 Y101) else (fX3_check_j63 v3 Y101))))
def fX3_check_j14 (Y : St × St × St × St × St) : Option (Int × (St × St × St × St × St)) := some ((-2), Y)
def fX3_check (Y : St × St × St × St × St) (a0 a1 : Int) : Option (Int × (St × St × St × St × St)) := clp (fX3_isWay a0) fun r1 => if wr r1 = 0 then (fX3_check_j14  Y) else (clp (fX3_isPlaces a1) fun r2 => if wr r2 = 0 then (fX3_check_j14  Y) else (clv (fX2_begin (Y.2.2.2.1, Y.2.1) a0 a1) (fun u => (Y.1, u.2, Y.2.2.1, u.1, Y.2.2.2.2)) fun Y3 => nm 0 fun x4 => fX3_check_l28 FU x4 Y3))
def fX4_in_j15 (s0 : Int) : Option Int := cb s0 (some s0)
def fX4_in_j14 : Option Int := fX4_in_j15 0
def fX4_in (a0 a1 a2 : Int) : Option Int := if wr a0 < wr a1 then (fX4_in_j14) else (if wr a2 < wr a0 then (fX4_in_j14) else (fX4_in_j15 1))
def fX4_isThing (a0 : Int) : Option Int := clp (fX4_in a0 0 15) fun r1 => cb r1 (some r1)
def fX4_isAsking (Y : St) (a0 : Int) : Option (Int × (St)) := clp (fX4_in a0 0 ((Y.1 2) - 1)) fun r1 => cb r1 (some (r1, Y))
def fX4_price_j18 (Y : St) : Option (Int × (St)) := some ((-1), Y)
def fX4_price (Y : St) (a0 a1 : Int) : Option (Int × (St)) := clp (fX4_isThing a0) fun r1 => if wr r1 = 0 then (fX4_price_j18  Y) else (clp (fX4_in a1 1 1000) fun r2 => if wr r2 = 0 then (fX4_price_j18  Y) else (cb 0 (nm (setI Y 3 0) fun Y3 => bd a0 16 (nm (setA Y3 0 (Int.toNat a0) a1) fun Y4 => some (1, Y4)))))
def fX4_add (Y : St) (a0 : Int) : Option (St) := bd (Y.1 2) 300 (nm (setA Y 1 (Int.toNat (Y.1 2)) a0) fun Y1 => nm (setI Y1 2 ((Y1.1 2) + 1)) fun Y2 => some Y2)
def fX4_ask_j126 (Y : St) : Option (Int × (St)) := some ((Y.1 2), Y)
def fX4_ask_l102 : Nat → Int → Int → (St) → Option (Int × (St))
  | 0 => fun _ _ _ => none
  | n + 1 => fun v6 v7 Y => if wr v6 ≤ wr v7 then (fX4_ask_j126  Y) else (bd v7 5 (clv (fX4_add Y (Y.2 10 (Int.toNat v7))) (fun u => u) fun Y101 => nm (v7 + 1) fun x102 => (fX4_ask_l102 n) v6 x102 Y101))
def fX4_ask_j78 (v6 : Int) (Y : St) : Option (Int × (St)) := if wr ((Y.1 2) + v6) ≤ wr 300 then (cb 0 (nm (setI Y 3 0) fun Y103 => nm 0 fun x104 => fX4_ask_l102 FU v6 x104 Y103)) else (some ((-2), Y))
def fX4_ask_l40 : Nat → Int → (St) → Option (Int × (St))
  | 0 => fun _ _ => none
  | n + 1 => fun v6 Y => if wr 5 ≤ wr v6 then (fX4_ask_j78 v6 Y) else (bd v6 5 (if wr (Y.2 10 (Int.toNat v6)) = wr (-1) then (fX4_ask_j78 v6 Y) else (bd v6 5 (clp (fX4_isThing (Y.2 10 (Int.toNat v6))) fun r105 => if wr r105 = 0 then (some ((-1), Y)) else (nm (v6 + 1) fun x106 => (fX4_ask_l40 n) x106 Y)))))
def fX4_ask (Y : St) (a0 a1 a2 a3 a4 : Int) : Option (Int × (St)) := bd 0 5 (nm (setA Y 10 (Int.toNat 0) a0) fun Y1 => bd 1 5 (nm (setA Y1 10 (Int.toNat 1) a1) fun Y2 => bd 2 5 (nm (setA Y2 10 (Int.toNat 2) a2) fun Y3 => bd 3 5 (nm (setA Y3 10 (Int.toNat 3) a3) fun Y4 => bd 4 5 (nm (setA Y4 10 (Int.toNat 4) a4) fun Y5 => nm 0 fun x6 => fX4_ask_l40 FU x6 Y5)))))
def fX4_draw_j83 (Y : St) : Option (Int × (St)) := some ((Y.1 2), Y)
def fX4_draw_l49 : Nat → Int → Int → Int → Int → (St) → Option (Int × (St))
  | 0 => fun _ _ _ _ _ => none
  | n + 1 => fun v1 v2 v4 v5 Y => if wr v1 ≤ wr v5 then (fX4_draw_j83  Y) else (nm ((1103515245 * v4) + 12345) fun x101 => cz v2 (clv (fX4_add Y (remI (ushrI x101 16) v2)) (fun u => u) fun Y102 => nm (v5 + 1) fun x103 => (fX4_draw_l49 n) v1 v2 x101 x103 Y102))
def fX4_draw_j21 (Y : St) : Option (Int × (St)) := some ((-1), Y)
def fX4_draw (Y : St) (a0 a1 a2 : Int) : Option (Int × (St)) := clp (fX4_in a0 0 300) fun r1 => if wr r1 = 0 then (fX4_draw_j21  Y) else (clp (fX4_in a1 1 16) fun r2 => if wr r2 = 0 then (fX4_draw_j21  Y) else (if wr ((Y.1 2) + a0) ≤ wr 300 then (nm a2 fun x3 => cb 0 (nm (setI Y 3 0) fun Y4 => nm 0 fun x5 => fX4_draw_l49 FU a0 a1 x3 x5 Y4)) else (some ((-2), Y))))
def fX4_change_j15 (Y : St) : Option (Int × (St)) := some ((-1), Y)
def fX4_change (Y : St) (a0 a1 : Int) : Option (Int × (St)) := cls (fX4_isAsking Y a0) (fun u => u) fun r2 Y1 => if wr r2 = 0 then (fX4_change_j15  Y1) else (clp (fX4_isThing a1) fun r3 => if wr r3 = 0 then (fX4_change_j15  Y1) else (cb 0 (nm (setI Y1 3 0) fun Y4 => bd a0 300 (nm (setA Y4 1 (Int.toNat a0) a1) fun Y5 => some (1, Y5)))))
def fX4_cut (Y : St) (a0 : Int) : Option (Int × (St)) := clp (fX4_in a0 0 (Y.1 2)) fun r1 => if wr r1 = 0 then (some ((-1), Y)) else (cb 0 (nm (setI Y 3 0) fun Y2 => nm (setI Y2 2 a0) fun Y3 => some (a0, Y3)))
def fX4_asked_j18 (s0 : Int) (Y : St) : Option (Int × (St)) := some (s0, Y)
def fX4_asked (Y : St) (a0 : Int) : Option (Int × (St)) := cls (fX4_isAsking Y a0) (fun u => u) fun r2 Y1 => if wr r2 = 0 then (fX4_asked_j18 ((-1)) Y1) else (bd a0 300 (fX4_asked_j18 ((Y1.2 1 (Int.toNat a0))) Y1))
def fX4_unlike_j69 (v1 : Int) (Y : St) : Option (Int × (St)) := some (v1, Y)
def fX4_unlike_j61 (k_4 : Int → Int → (St) → Option (Int × (St))) (v2 s0 s1 : Int) (Y : St) : Option (Int × (St)) := nm (s1 + s0) fun x101 => nm (v2 + 1) fun x102 => k_4 x101 x102 Y
def fX4_unlike_j51 (k_4 : Int → Int → (St) → Option (Int × (St))) (v1 v2 v3 : Int) (Y : St) : Option (Int × (St)) := if wr v3 = 0 then (fX4_unlike_j61 k_4 v2 0 v1 Y) else (fX4_unlike_j61 k_4 v2 1 v1 Y)
def fX4_unlike_j44 (k_4 : Int → Int → (St) → Option (Int × (St))) (k_15 : Int → Int → Int → Int → (St) → Option (Int × (St))) (v1 v2 v4 s0 : Int) (Y : St) : Option (Int × (St)) := nm s0 fun x103 => nm (v4 + 1) fun x104 => k_15 v1 v2 x103 x104 Y
def fX4_unlike_j39 (k_4 : Int → Int → (St) → Option (Int × (St))) (k_15 : Int → Int → Int → Int → (St) → Option (Int × (St))) (v1 v2 v4 : Int) (Y : St) : Option (Int × (St)) := fX4_unlike_j44 k_4 k_15 v1 v2 v4 1 Y
def fX4_unlike_l15 (k_4 : Int → Int → (St) → Option (Int × (St))) : Nat → Int → Int → Int → Int → (St) → Option (Int × (St))
  | 0 => fun _ _ _ _ _ => none
  | n + 1 => fun v1 v2 v3 v4 Y => if wr (Y.1 2) ≤ wr v4 then (fX4_unlike_j51 k_4 v1 v2 v3 Y) else (if wr v3 = 0 then (bd v4 300 (if wr (Y.2 1 (Int.toNat v4)) = wr v2 then (fX4_unlike_j39 k_4 (fX4_unlike_l15 k_4 n) v1 v2 v4 Y) else (fX4_unlike_j44 k_4 (fX4_unlike_l15 k_4 n) v1 v2 v4 0 Y))) else (fX4_unlike_j39 k_4 (fX4_unlike_l15 k_4 n) v1 v2 v4 Y))
def fX4_unlike_l4 : Nat → Int → Int → (St) → Option (Int × (St))
  | 0 => fun _ _ _ => none
  | n + 1 => fun v1 v2 Y => if wr 16 ≤ wr v2 then (fX4_unlike_j69 v1 Y) else (nm 0 fun x105 => nm 0 fun x106 => fX4_unlike_l15 (fX4_unlike_l4 n) FU v1 v2 x105 x106 Y)
def fX4_unlike (Y : St) : Option (Int × (St)) := nm 0 fun x1 => nm 0 fun x2 => fX4_unlike_l4 FU x1 x2 Y
def fX4_allPrices_j32 (v1 : Int) (Y : St) : Option (Int × (St)) := some (v1, Y)
def fX4_allPrices_l4 : Nat → Int → Int → (St) → Option (Int × (St))
  | 0 => fun _ _ _ => none
  | n + 1 => fun v1 v2 Y => if wr (Y.1 2) ≤ wr v2 then (fX4_allPrices_j32 v1 Y) else (bd v2 300 (bd (Y.2 1 (Int.toNat v2)) 16 (nm (v1 + (Y.2 0 (Int.toNat (Y.2 1 (Int.toNat v2))))) fun x101 => nm (v2 + 1) fun x102 => (fX4_allPrices_l4 n) x101 x102 Y)))
def fX4_allPrices (Y : St) : Option (Int × (St)) := nm 0 fun x1 => nm 0 fun x2 => fX4_allPrices_l4 FU x1 x2 Y
def fX4_many (Y : St) (a0 : Int) : Option (Int × (St)) := if wr a0 = 0 then (some ((Y.1 2), Y)) else (if wr a0 = 1 then (cls (fX4_unlike Y) (fun u => u) fun r4 Y3 => some (r4, Y3)) else (if wr a0 = 2 then (some ((Y.1 9), Y)) else (if wr a0 = 3 then (cls (fX4_allPrices Y) (fun u => u) fun r8 Y7 => some (r8, Y7)) else (some ((-1), Y)))))
def fX4_begin_l37 : Nat → Int → (St) → Option (St)
  | 0 => fun _ _ => none
  | n + 1 => fun v3 Y => if wr 16 ≤ wr v3 then (some Y) else (cb 0 (bd v3 16 (nm (setA Y 13 (Int.toNat v3) 0) fun Y101 => cb 0 (bd v3 16 (nm (setA Y101 17 (Int.toNat v3) 0) fun Y102 => bd v3 16 (nm (setA Y102 19 (Int.toNat v3) 0) fun Y103 => bd v3 16 (nm (setA Y103 16 (Int.toNat v3) 0) fun Y104 => bd v3 16 (nm (setA Y104 21 (Int.toNat v3) 0) fun Y105 => bd v3 16 (nm (setA Y105 18 (Int.toNat v3) (-1)) fun Y106 => nm (v3 + 1) fun x107 => (fX4_begin_l37 n) x107 Y106)))))))))
def fX4_begin (Y : St) (a0 a1 : Int) : Option (St) := nm (setI Y 11 a0) fun Y1 => nm (setI Y1 12 a1) fun Y2 => nm (setI Y2 22 0) fun Y3 => nm (setI Y3 23 0) fun Y4 => nm (setI Y4 24 0) fun Y5 => nm (setI Y5 25 0) fun Y6 => nm (setI Y6 26 0) fun Y7 => nm 0 fun x8 => fX4_begin_l37 FU x8 Y7
def fX4_partSize_j34 (v2 : Int) (Y : St) : Option (Int × (St)) := some (v2, Y)
def fX4_partSize_j26 (k_4 : Int → Int → Int → (St) → Option (Int × (St))) (v1 v3 s0 s1 : Int) (Y : St) : Option (Int × (St)) := nm (s1 + s0) fun x101 => nm (v3 + 1) fun x102 => k_4 v1 x101 x102 Y
def fX4_partSize_l4 : Nat → Int → Int → Int → (St) → Option (Int × (St))
  | 0 => fun _ _ _ _ => none
  | n + 1 => fun v1 v2 v3 Y => if wr 16 ≤ wr v3 then (fX4_partSize_j34 v2 Y) else (bd v3 16 (if wr (Y.2 19 (Int.toNat v3)) = wr v1 then (fX4_partSize_j26 (fX4_partSize_l4 n) v1 v3 1 v2 Y) else (fX4_partSize_j26 (fX4_partSize_l4 n) v1 v3 0 v2 Y)))
def fX4_partSize (Y : St) (a0 : Int) : Option (Int × (St)) := nm 0 fun x1 => nm 0 fun x2 => fX4_partSize_l4 FU a0 x1 x2 Y
def fX4_firstIn_j51 (v2 : Int) (Y : St) : Option (Int × (St)) := some (v2, Y)
def fX4_firstIn_j44 (k_4 : Int → Int → Int → (St) → Option (Int × (St))) (v1 v3 s0 : Int) (Y : St) : Option (Int × (St)) := nm s0 fun x101 => nm (v3 + 1) fun x102 => k_4 v1 x101 x102 Y
def fX4_firstIn_j43 (k_4 : Int → Int → Int → (St) → Option (Int × (St))) (v1 v2 v3 : Int) (Y : St) : Option (Int × (St)) := fX4_firstIn_j44 k_4 v1 v3 v2 Y
def fX4_firstIn_j39 (k_4 : Int → Int → Int → (St) → Option (Int × (St))) (v1 v3 : Int) (Y : St) : Option (Int × (St)) := fX4_firstIn_j44 k_4 v1 v3 v3 Y
def fX4_firstIn_l4 : Nat → Int → Int → Int → (St) → Option (Int × (St))
  | 0 => fun _ _ _ _ => none
  | n + 1 => fun v1 v2 v3 Y => if wr 16 ≤ wr v3 then (fX4_firstIn_j51 v2 Y) else (bd v3 16 (if wr (Y.2 19 (Int.toNat v3)) = wr v1 then (if wr v2 < 0 then (fX4_firstIn_j39 (fX4_firstIn_l4 n) v1 v3 Y) else (bd v3 16 (bd v2 16 (if wr (Y.2 20 (Int.toNat v2)) ≤ wr (Y.2 20 (Int.toNat v3)) then (fX4_firstIn_j43 (fX4_firstIn_l4 n) v1 v2 v3 Y) else (fX4_firstIn_j39 (fX4_firstIn_l4 n) v1 v3 Y))))) else (fX4_firstIn_j43 (fX4_firstIn_l4 n) v1 v2 v3 Y)))
def fX4_firstIn (Y : St) (a0 : Int) : Option (Int × (St)) := nm (-1) fun x1 => nm 0 fun x2 => fX4_firstIn_l4 FU a0 x1 x2 Y
def fX4_resting_j96 (v3 : Int) (Y : St) : Option (Int × (St)) := some (v3, Y)
def fX4_resting_j89 (k_5 : Int → Int → Int → Int → (St) → Option (Int × (St))) (v1 v2 v4 s0 : Int) (Y : St) : Option (Int × (St)) := nm s0 fun x101 => nm (v4 + 1) fun x102 => k_5 v1 v2 x101 x102 Y
def fX4_resting_j88 (k_5 : Int → Int → Int → Int → (St) → Option (Int × (St))) (v1 v2 v3 v4 : Int) (Y : St) : Option (Int × (St)) := fX4_resting_j89 k_5 v1 v2 v4 v3 Y
def fX4_resting_j83 (k_5 : Int → Int → Int → Int → (St) → Option (Int × (St))) (v1 v2 v4 : Int) (Y : St) : Option (Int × (St)) := fX4_resting_j89 k_5 v1 v2 v4 v4 Y
def fX4_resting_j56 (k_5 : Int → Int → Int → Int → (St) → Option (Int × (St))) (v1 v2 v3 v4 s0 : Int) (Y : St) : Option (Int × (St)) := nm s0 fun x103 => if wr x103 = 0 then (fX4_resting_j88 k_5 v1 v2 v3 v4 Y) else (if wr v3 < 0 then (fX4_resting_j83 k_5 v1 v2 v4 Y) else (bd v4 16 (bd v3 16 (if wr (Y.2 15 (Int.toNat v3)) ≤ wr (Y.2 15 (Int.toNat v4)) then (fX4_resting_j88 k_5 v1 v2 v3 v4 Y) else (fX4_resting_j83 k_5 v1 v2 v4 Y)))))
def fX4_resting_j55 (k_5 : Int → Int → Int → Int → (St) → Option (Int × (St))) (v1 v2 v3 v4 : Int) (Y : St) : Option (Int × (St)) := fX4_resting_j56 k_5 v1 v2 v3 v4 0 Y
def fX4_resting_j51 (k_5 : Int → Int → Int → Int → (St) → Option (Int × (St))) (v1 v2 v3 v4 : Int) (Y : St) : Option (Int × (St)) := fX4_resting_j56 k_5 v1 v2 v3 v4 1 Y
def fX4_resting_j37 (k_5 : Int → Int → Int → Int → (St) → Option (Int × (St))) (v1 v2 v3 v4 : Int) (Y : St) : Option (Int × (St)) := if wr v2 = 0 then (fX4_resting_j51 k_5 v1 v2 v3 v4 Y) else (bd v4 16 (if wr (Y.2 17 (Int.toNat v4)) = 0 then (fX4_resting_j51 k_5 v1 v2 v3 v4 Y) else (fX4_resting_j55 k_5 v1 v2 v3 v4 Y)))
def fX4_resting_l5 : Nat → Int → Int → Int → Int → (St) → Option (Int × (St))
  | 0 => fun _ _ _ _ _ => none
  | n + 1 => fun v1 v2 v3 v4 Y => if wr 16 ≤ wr v4 then (fX4_resting_j96 v3 Y) else (bd v4 16 (if wr (Y.2 13 (Int.toNat v4)) = 0 then (fX4_resting_j55 (fX4_resting_l5 n) v1 v2 v3 v4 Y) else (if wr v1 = 0 then (fX4_resting_j37 (fX4_resting_l5 n) v1 v2 v3 v4 Y) else (bd v4 16 (if wr (Y.2 19 (Int.toNat v4)) = wr v1 then (fX4_resting_j37 (fX4_resting_l5 n) v1 v2 v3 v4 Y) else (fX4_resting_j55 (fX4_resting_l5 n) v1 v2 v3 v4 Y))))))
def fX4_resting (Y : St) (a0 a1 : Int) : Option (Int × (St)) := nm (-1) fun x1 => nm 0 fun x2 => fX4_resting_l5 FU a0 a1 x1 x2 Y
def fX4_oldest_j50 (v1 : Int) (Y : St) : Option (Int × (St)) := some (v1, Y)
def fX4_oldest_j43 (k_4 : Int → Int → (St) → Option (Int × (St))) (v2 s0 : Int) (Y : St) : Option (Int × (St)) := nm s0 fun x101 => nm (v2 + 1) fun x102 => k_4 x101 x102 Y
def fX4_oldest_j42 (k_4 : Int → Int → (St) → Option (Int × (St))) (v1 v2 : Int) (Y : St) : Option (Int × (St)) := fX4_oldest_j43 k_4 v2 v1 Y
def fX4_oldest_j38 (k_4 : Int → Int → (St) → Option (Int × (St))) (v2 : Int) (Y : St) : Option (Int × (St)) := fX4_oldest_j43 k_4 v2 v2 Y
def fX4_oldest_l4 : Nat → Int → Int → (St) → Option (Int × (St))
  | 0 => fun _ _ _ => none
  | n + 1 => fun v1 v2 Y => if wr 16 ≤ wr v2 then (fX4_oldest_j50 v1 Y) else (bd v2 16 (if wr (Y.2 13 (Int.toNat v2)) = 0 then (fX4_oldest_j42 (fX4_oldest_l4 n) v1 v2 Y) else (if wr v1 < 0 then (fX4_oldest_j38 (fX4_oldest_l4 n) v2 Y) else (bd v2 16 (bd v1 16 (if wr (Y.2 14 (Int.toNat v1)) ≤ wr (Y.2 14 (Int.toNat v2)) then (fX4_oldest_j42 (fX4_oldest_l4 n) v1 v2 Y) else (fX4_oldest_j38 (fX4_oldest_l4 n) v2 Y)))))))
def fX4_oldest (Y : St) : Option (Int × (St)) := nm (-1) fun x1 => nm 0 fun x2 => fX4_oldest_l4 FU x1 x2 Y
def fX4_unmarked_j49 (v1 : Int) (Y : St) : Option (Int × (St)) := some (v1, Y)
def fX4_unmarked_j32 (Y : St) : Option (Int × (St)) := nm (setI Y 23 ((Y.1 23) + 1)) fun Y101 => cls (fX4_resting Y101 0 1) (fun u => u) fun r103 Y102 => nm r103 fun x104 => fX4_unmarked_j49 x104 Y102
def fX4_unmarked_l13 : Nat → Int → (St) → Option (Int × (St))
  | 0 => fun _ _ => none
  | n + 1 => fun v2 Y => if wr 16 ≤ wr v2 then (fX4_unmarked_j32  Y) else (cb 0 (bd v2 16 (nm (setA Y 17 (Int.toNat v2) 0) fun Y105 => nm (v2 + 1) fun x106 => (fX4_unmarked_l13 n) x106 Y105)))
def fX4_unmarked (Y : St) : Option (Int × (St)) := cls (fX4_resting Y 0 1) (fun u => u) fun r2 Y1 => nm r2 fun x3 => if 0 ≤ wr x3 then (fX4_unmarked_j49 x3 Y1) else (nm 0 fun x4 => fX4_unmarked_l13 FU x4 Y1)
def fX4_atPlace_j41 (v2 : Int) (Y : St) : Option (Int × (St)) := some (v2, Y)
def fX4_atPlace_j34 (k_4 : Int → Int → Int → (St) → Option (Int × (St))) (v1 v3 s0 : Int) (Y : St) : Option (Int × (St)) := nm s0 fun x101 => nm (v3 + 1) fun x102 => k_4 v1 x101 x102 Y
def fX4_atPlace_j33 (k_4 : Int → Int → Int → (St) → Option (Int × (St))) (v1 v2 v3 : Int) (Y : St) : Option (Int × (St)) := fX4_atPlace_j34 k_4 v1 v3 v2 Y
def fX4_atPlace_l4 : Nat → Int → Int → Int → (St) → Option (Int × (St))
  | 0 => fun _ _ _ _ => none
  | n + 1 => fun v1 v2 v3 Y => if wr 16 ≤ wr v3 then (fX4_atPlace_j41 v2 Y) else (bd v3 16 (if wr (Y.2 13 (Int.toNat v3)) = 0 then (fX4_atPlace_j33 (fX4_atPlace_l4 n) v1 v2 v3 Y) else (bd v3 16 (if wr (Y.2 18 (Int.toNat v3)) = wr v1 then (fX4_atPlace_j34 (fX4_atPlace_l4 n) v1 v3 v3 Y) else (fX4_atPlace_j33 (fX4_atPlace_l4 n) v1 v2 v3 Y)))))
def fX4_atPlace (Y : St) (a0 : Int) : Option (Int × (St)) := nm (-1) fun x1 => nm 0 fun x2 => fX4_atPlace_l4 FU a0 x1 x2 Y
def fX4_atHand_j52 (v1 : Int) (Y : St) : Option (Int × (St)) := some (v1, Y)
def fX4_atHand_l9 : Nat → Int → (St) → Option (Int × (St))
  | 0 => fun _ _ => none
  | n + 1 => fun v1 Y => bd v1 16 (if wr (Y.2 17 (Int.toNat v1)) = 0 then (fX4_atHand_j52 v1 Y) else (cb 0 (bd v1 16 (nm (setA Y 17 (Int.toNat v1) 0) fun Y101 => cz (Y101.1 12) (nm (setI Y101 24 (remI ((Y101.1 24) + 1) (Y101.1 12))) fun Y102 => cls (fX4_atPlace Y102 (Y102.1 24)) (fun u => u) fun r104 Y103 => nm r104 fun x105 => (fX4_atHand_l9 n) x105 Y103)))))
def fX4_atHand (Y : St) : Option (Int × (St)) := cls (fX4_atPlace Y (Y.1 24)) (fun u => u) fun r2 Y1 => nm r2 fun x3 => fX4_atHand_l9 FU x3 Y1
def fX4_least_counts_j80 (v2 : Int) (Y : St) : Option (Int × (St)) := some (v2, Y)
def fX4_least_counts_j73 (k_4 : Int → Int → (St) → Option (Int × (St))) (v3 s0 : Int) (Y : St) : Option (Int × (St)) := nm s0 fun x101 => nm (v3 + 1) fun x102 => k_4 x101 x102 Y
def fX4_least_counts_j61 (k_4 : Int → Int → (St) → Option (Int × (St))) (v2 v3 s0 : Int) (Y : St) : Option (Int × (St)) := nm s0 fun x103 => if wr x103 = 0 then (fX4_least_counts_j73 k_4 v3 v2 Y) else (fX4_least_counts_j73 k_4 v3 v3 Y)
def fX4_least_counts_j60 (k_4 : Int → Int → (St) → Option (Int × (St))) (v2 v3 : Int) (Y : St) : Option (Int × (St)) := fX4_least_counts_j61 k_4 v2 v3 0 Y
def fX4_least_counts_j56 (k_4 : Int → Int → (St) → Option (Int × (St))) (v2 v3 : Int) (Y : St) : Option (Int × (St)) := fX4_least_counts_j61 k_4 v2 v3 1 Y
def fX4_least_counts_l4 : Nat → Int → Int → (St) → Option (Int × (St))
  | 0 => fun _ _ _ => none
  | n + 1 => fun v2 v3 Y => if wr 16 ≤ wr v3 then (fX4_least_counts_j80 v2 Y) else (bd v3 16 (if wr (Y.2 13 (Int.toNat v3)) = 0 then (fX4_least_counts_j60 (fX4_least_counts_l4 n) v2 v3 Y) else (if wr v2 < 0 then (fX4_least_counts_j56 (fX4_least_counts_l4 n) v2 v3 Y) else (bd v3 16 (bd v2 16 (if wr (Y.2 16 (Int.toNat v3)) < wr (Y.2 16 (Int.toNat v2)) then (fX4_least_counts_j56 (fX4_least_counts_l4 n) v2 v3 Y) else (bd v3 16 (bd v2 16 (if wr (Y.2 16 (Int.toNat v3)) = wr (Y.2 16 (Int.toNat v2)) then (bd v3 16 (bd v2 16 (if wr (Y.2 15 (Int.toNat v2)) ≤ wr (Y.2 15 (Int.toNat v3)) then (fX4_least_counts_j60 (fX4_least_counts_l4 n) v2 v3 Y) else (fX4_least_counts_j56 (fX4_least_counts_l4 n) v2 v3 Y)))) else (fX4_least_counts_j60 (fX4_least_counts_l4 n) v2 v3 Y))))))))))
def fX4_least_counts (Y : St) : Option (Int × (St)) := nm (-1) fun x1 => nm 0 fun x2 => fX4_least_counts_l4 FU x1 x2 Y
def fX4_least_credit_j80 (v2 : Int) (Y : St) : Option (Int × (St)) := some (v2, Y)
def fX4_least_credit_j73 (k_4 : Int → Int → (St) → Option (Int × (St))) (v3 s0 : Int) (Y : St) : Option (Int × (St)) := nm s0 fun x101 => nm (v3 + 1) fun x102 => k_4 x101 x102 Y
def fX4_least_credit_j61 (k_4 : Int → Int → (St) → Option (Int × (St))) (v2 v3 s0 : Int) (Y : St) : Option (Int × (St)) := nm s0 fun x103 => if wr x103 = 0 then (fX4_least_credit_j73 k_4 v3 v2 Y) else (fX4_least_credit_j73 k_4 v3 v3 Y)
def fX4_least_credit_j60 (k_4 : Int → Int → (St) → Option (Int × (St))) (v2 v3 : Int) (Y : St) : Option (Int × (St)) := fX4_least_credit_j61 k_4 v2 v3 0 Y
def fX4_least_credit_j56 (k_4 : Int → Int → (St) → Option (Int × (St))) (v2 v3 : Int) (Y : St) : Option (Int × (St)) := fX4_least_credit_j61 k_4 v2 v3 1 Y
def fX4_least_credit_l4 : Nat → Int → Int → (St) → Option (Int × (St))
  | 0 => fun _ _ _ => none
  | n + 1 => fun v2 v3 Y => if wr 16 ≤ wr v3 then (fX4_least_credit_j80 v2 Y) else (bd v3 16 (if wr (Y.2 13 (Int.toNat v3)) = 0 then (fX4_least_credit_j60 (fX4_least_credit_l4 n) v2 v3 Y) else (if wr v2 < 0 then (fX4_least_credit_j56 (fX4_least_credit_l4 n) v2 v3 Y) else (bd v3 16 (bd v2 16 (if wr (Y.2 21 (Int.toNat v3)) < wr (Y.2 21 (Int.toNat v2)) then (fX4_least_credit_j56 (fX4_least_credit_l4 n) v2 v3 Y) else (bd v3 16 (bd v2 16 (if wr (Y.2 21 (Int.toNat v3)) = wr (Y.2 21 (Int.toNat v2)) then (bd v3 16 (bd v2 16 (if wr (Y.2 15 (Int.toNat v2)) ≤ wr (Y.2 15 (Int.toNat v3)) then (fX4_least_credit_j60 (fX4_least_credit_l4 n) v2 v3 Y) else (fX4_least_credit_j56 (fX4_least_credit_l4 n) v2 v3 Y)))) else (fX4_least_credit_j60 (fX4_least_credit_l4 n) v2 v3 Y))))))))))
def fX4_least_credit (Y : St) : Option (Int × (St)) := nm (-1) fun x1 => nm 0 fun x2 => fX4_least_credit_l4 FU x1 x2 Y
def fX4_toBook_j23 (v1 v2 v3 : Int) (Y : St) : Option (St) := bd v1 16 (nm (setA Y 19 (Int.toNat v1) v2) fun Y101 => bd v1 16 (nm (setA Y101 20 (Int.toNat v1) v3) fun Y102 => some Y102))
def fX4_toBook (Y : St) (a0 a1 a2 : Int) : Option (St) := cls (fX4_partSize Y a1) (fun u => u) fun r2 Y1 => if wr r2 = wr (Y1.1 12) then (cls (fX4_firstIn Y1 a1) (fun u => u) fun r4 Y3 => bd r4 16 (nm (setA Y3 19 (Int.toNat r4) 0) fun Y5 => fX4_toBook_j23 a0 a1 a2 Y5)) else (fX4_toBook_j23 a0 a1 a2 Y1)
def fX4_ofTwoParts_j114 (v5 : Int) (Y : St) : Option (Int × (St)) := some (v5, Y)
def fX4_ofTwoParts_j71 (v1 v4 s0 : Int) (Y : St) : Option (Int × (St)) := nm s0 fun x101 => bd x101 16 (nm (setA Y 19 (Int.toNat x101) 0) fun Y102 => if wr v4 = 0 then (if wr (Y102.1 11) = wr 6 then (clv (fX4_toBook Y102 x101 4 v1) (fun u => u) fun Y103 => fX4_ofTwoParts_j114 x101 Y103) else (fX4_ofTwoParts_j114 x101 Y102)) else (clv (fX4_toBook Y102 x101 3 v1) (fun u => u) fun Y104 => fX4_ofTwoParts_j114 x101 Y104))
def fX4_ofTwoParts_j50 (v1 s0 : Int) (Y : St) : Option (Int × (St)) := nm s0 fun x105 => if wr x105 = 0 then (cls (fX4_resting Y 2 0) (fun u => u) fun r107 Y106 => fX4_ofTwoParts_j71 v1 x105 r107 Y106) else (cls (fX4_firstIn Y 1) (fun u => u) fun r109 Y108 => fX4_ofTwoParts_j71 v1 x105 r109 Y108)
def fX4_ofTwoParts_j49 (v1 : Int) (Y : St) : Option (Int × (St)) := fX4_ofTwoParts_j50 v1 0 Y
def fX4_ofTwoParts_j45 (v1 : Int) (Y : St) : Option (Int × (St)) := fX4_ofTwoParts_j50 v1 1 Y
def fX4_ofTwoParts_j21 (v1 s0 : Int) (Y : St) : Option (Int × (St)) := nm s0 fun x110 => cls (fX4_partSize Y 1) (fun u => u) fun r112 Y111 => nm r112 fun x113 => if wr x113 ≤ 0 then (fX4_ofTwoParts_j49 v1 Y111) else (if wr x110 < wr x113 then (fX4_ofTwoParts_j45 v1 Y111) else (cls (fX4_partSize Y111 2) (fun u => u) fun r115 Y114 => if wr r115 = 0 then (fX4_ofTwoParts_j45 v1 Y114) else (fX4_ofTwoParts_j49 v1 Y114)))
def fX4_ofTwoParts (Y : St) (a0 : Int) : Option (Int × (St)) := if wr (Y.1 11) = wr 5 then (cz 4 (fX4_ofTwoParts_j21 a0 ((divI (Y.1 12) 4)) Y)) else (fX4_ofTwoParts_j21 a0 ((Y.1 25)) Y)
def fX4_askedNext_j28 (v3 : Int) (Y : St) : Option (Int × (St)) := some (v3, Y)
def fX4_askedNext_l4 : Nat → Int → Int → (St) → Option (Int × (St))
  | 0 => fun _ _ _ => none
  | n + 1 => fun v1 v3 Y => if wr (Y.1 2) ≤ wr v3 then (fX4_askedNext_j28 v3 Y) else (bd v3 300 (if wr (Y.2 1 (Int.toNat v3)) = wr v1 then (fX4_askedNext_j28 v3 Y) else (nm (v3 + 1) fun x101 => (fX4_askedNext_l4 n) v1 x101 Y)))
def fX4_askedNext (Y : St) (a0 a1 : Int) : Option (Int × (St)) := nm (a1 + 1) fun x1 => fX4_askedNext_l4 FU a0 x1 Y
def fX4_latestAhead_j65 (v2 : Int) (Y : St) : Option (Int × (St)) := some (v2, Y)
def fX4_latestAhead_j59 (k_7 : Int → Int → Int → Int → (St) → Option (Int × (St))) (v1 v2 v3 v4 : Int) (Y : St) : Option (Int × (St)) := nm (v4 + 1) fun x101 => k_7 v1 v2 v3 x101 Y
def fX4_latestAhead_j58 (k_7 : Int → Int → Int → Int → (St) → Option (Int × (St))) (v1 v2 v4 s0 : Int) (Y : St) : Option (Int × (St)) := nm s0 fun x102 => fX4_latestAhead_j59 k_7 v1 v2 x102 v4 Y
def fX4_latestAhead_j45 (k_7 : Int → Int → Int → Int → (St) → Option (Int × (St))) (v1 v3 v4 v5 s0 : Int) (Y : St) : Option (Int × (St)) := nm s0 fun x103 => if wr v5 ≤ wr v3 then (fX4_latestAhead_j58 k_7 v1 x103 v4 v3 Y) else (fX4_latestAhead_j58 k_7 v1 x103 v4 v5 Y)
def fX4_latestAhead_l7 : Nat → Int → Int → Int → Int → (St) → Option (Int × (St))
  | 0 => fun _ _ _ _ _ => none
  | n + 1 => fun v1 v2 v3 v4 Y => if wr 16 ≤ wr v4 then (fX4_latestAhead_j65 v2 Y) else (bd v4 16 (if wr (Y.2 13 (Int.toNat v4)) = 0 then (fX4_latestAhead_j59 (fX4_latestAhead_l7 n) v1 v2 v3 v4 Y) else (cls (fX4_askedNext Y v4 v1) (fun u => u) fun r105 Y104 => nm r105 fun x106 => if wr x106 ≤ wr v3 then (fX4_latestAhead_j45 (fX4_latestAhead_l7 n) v1 v3 v4 x106 v2 Y104) else (fX4_latestAhead_j45 (fX4_latestAhead_l7 n) v1 v3 v4 x106 v4 Y104))))
def fX4_latestAhead (Y : St) (a0 : Int) : Option (Int × (St)) := nm (-1) fun x1 => nm (-1) fun x2 => nm 0 fun x3 => fX4_latestAhead_l7 FU a0 x1 x2 x3 Y
def fX4_chosen_j83 (v1 : Int) (Y : St) : Option (Int × (St)) := cls (fX4_ofTwoParts Y v1) (fun u => u) fun r102 Y101 => some (r102, Y101)
def fX4_chosen (Y : St) (a0 : Int) : Option (Int × (St)) := if wr (Y.1 11) = 0 then (cls (fX4_oldest Y) (fun u => u) fun r3 Y2 => some (r3, Y2)) else (if wr (Y.1 11) = 1 then (cls (fX4_resting Y 0 0) (fun u => u) fun r6 Y5 => some (r6, Y5)) else (if wr (Y.1 11) = 2 then (cls (fX4_unmarked Y) (fun u => u) fun r9 Y8 => some (r9, Y8)) else (if wr (Y.1 11) = 3 then (cls (fX4_atHand Y) (fun u => u) fun r12 Y11 => some (r12, Y11)) else (if wr (Y.1 11) = 4 then (cls (fX4_least_counts Y) (fun u => u) fun r15 Y14 => some (r15, Y14)) else (if wr (Y.1 11) = 5 then (fX4_chosen_j83 a0 Y) else (if wr (Y.1 11) = 6 then (fX4_chosen_j83 a0 Y) else (if wr (Y.1 11) = 7 then (cls (fX4_least_credit Y) (fun u => u) fun r20 Y19 => some (r20, Y19)) else (cls (fX4_latestAhead Y a0) (fun u => u) fun r22 Y21 => some (r22, Y21)))))))))
def fX4_hit_j61 (v1 : Int) (Y : St) : Option (St) := bd v1 16 (bd v1 16 (nm (setA Y 21 (Int.toNat v1) ((Y.1 26) + (Y.2 0 (Int.toNat v1)))) fun Y101 => some Y101))
def fX4_hit_j36 (v1 v2 s0 s1 : Int) (Y : St) : Option (St) := cb s0 (bd s1 16 (nm (setA Y 17 (Int.toNat s1) s0) fun Y102 => bd v1 16 (if wr (Y102.2 19 (Int.toNat v1)) = wr 2 then (fX4_hit_j61 v1 Y102) else (bd v1 16 (nm (setA Y102 19 (Int.toNat v1) 2) fun Y103 => bd v1 16 (nm (setA Y103 20 (Int.toNat v1) v2) fun Y104 => fX4_hit_j61 v1 Y104))))))
def fX4_hit_j31 (v1 v2 s0 : Int) (Y : St) : Option (St) := fX4_hit_j36 v1 v2 1 s0 Y
def fX4_hit (Y : St) (a0 a1 : Int) : Option (St) := bd a0 16 (bd a0 16 (nm (setA Y 16 (Int.toNat a0) ((Y.2 16 (Int.toNat a0)) + 1)) fun Y1 => if wr (Y1.1 11) = wr 2 then (fX4_hit_j31 a0 a1 a0 Y1) else (if wr (Y1.1 11) = wr 3 then (fX4_hit_j31 a0 a1 a0 Y1) else (fX4_hit_j36 a0 a1 0 a0 Y1))))
def fX4_fromBook_j116 (v1 v2 : Int) (Y : St) : Option (Int × (St)) := bd v1 16 (nm (setA Y 19 (Int.toNat v1) 0) fun Y101 => cb v2 (some (v2, Y101)))
def fX4_fromBook_j113 (v1 v2 s0 : Int) (Y : St) : Option (Int × (St)) := nm (setI Y 25 s0) fun Y102 => fX4_fromBook_j116 v1 v2 Y102
def fX4_fromBook_j73 (v1 v2 : Int) (Y : St) : Option (Int × (St)) := if wr (Y.1 11) = wr 6 then (bd v1 16 (if wr (Y.2 19 (Int.toNat v1)) = wr 4 then (if wr (Y.1 25) ≤ 0 then (fX4_fromBook_j113 v1 v2 ((Y.1 25)) Y) else (fX4_fromBook_j113 v1 v2 (((Y.1 25) - 1)) Y)) else (fX4_fromBook_j116 v1 v2 Y))) else (fX4_fromBook_j116 v1 v2 Y)
def fX4_fromBook_j70 (v1 v2 s0 : Int) (Y : St) : Option (Int × (St)) := nm (setI Y 25 s0) fun Y103 => fX4_fromBook_j73 v1 v2 Y103
def fX4_fromBook_j25 (v1 s0 : Int) (Y : St) : Option (Int × (St)) := nm s0 fun x104 => if wr (Y.1 11) = wr 6 then (bd v1 16 (if wr (Y.2 19 (Int.toNat v1)) = wr 3 then (if wr (Y.1 12) ≤ wr (Y.1 25) then (fX4_fromBook_j70 v1 x104 ((Y.1 25)) Y) else (fX4_fromBook_j70 v1 x104 (((Y.1 25) + 1)) Y)) else (fX4_fromBook_j73 v1 x104 Y))) else (fX4_fromBook_j73 v1 x104 Y)
def fX4_fromBook_j20 (v1 : Int) (Y : St) : Option (Int × (St)) := fX4_fromBook_j25 v1 1 Y
def fX4_fromBook (Y : St) (a0 : Int) : Option (Int × (St)) := bd a0 16 (if wr (Y.2 19 (Int.toNat a0)) = wr 3 then (fX4_fromBook_j20 a0 Y) else (bd a0 16 (if wr (Y.2 19 (Int.toNat a0)) = wr 4 then (fX4_fromBook_j20 a0 Y) else (fX4_fromBook_j25 a0 0 Y))))
def fX4_leave_j44 (v1 s0 : Int) (Y : St) : Option (St) := nm (setI Y 26 s0) fun Y101 => bd v1 16 (nm (setA Y101 21 (Int.toNat v1) 0) fun Y102 => nm (setI Y102 22 ((Y102.1 22) - 1)) fun Y103 => some Y103)
def fX4_leave (Y : St) (a0 : Int) : Option (St) := cb 0 (bd a0 16 (nm (setA Y 13 (Int.toNat a0) 0) fun Y1 => cb 0 (bd a0 16 (nm (setA Y1 17 (Int.toNat a0) 0) fun Y2 => bd a0 16 (nm (setA Y2 16 (Int.toNat a0) 0) fun Y3 => if wr (Y3.1 11) = wr 7 then (bd a0 16 (fX4_leave_j44 a0 ((Y3.2 21 (Int.toNat a0))) Y3)) else (fX4_leave_j44 a0 ((Y3.1 26)) Y3))))))
def fX4_serveOne_j236 (v1 v2 : Int) (Y : St) : Option (St) := bd v2 16 (nm (setA Y 15 (Int.toNat v2) v1) fun Y101 => some Y101)
def fX4_serveOne_j211 (v1 v2 s0 s1 : Int) (Y : St) : Option (St) := bd s1 16 (nm (setA Y 19 (Int.toNat s1) s0) fun Y102 => bd v2 16 (nm (setA Y102 20 (Int.toNat v2) v1) fun Y103 => bd v2 16 (bd v2 16 (nm (setA Y103 21 (Int.toNat v2) ((Y103.1 26) + (Y103.2 0 (Int.toNat v2)))) fun Y104 => fX4_serveOne_j236 v1 v2 Y104))))
def fX4_serveOne_j188 (v1 v2 v3 v4 s0 s1 : Int) (Y : St) : Option (St) := cb s0 (bd s1 16 (nm (setA Y 17 (Int.toNat s1) s0) fun Y105 => bd v2 16 (nm (setA Y105 18 (Int.toNat v2) v4) fun Y106 => if wr v3 = 0 then (fX4_serveOne_j211 v1 v2 1 v2 Y106) else (fX4_serveOne_j211 v1 v2 2 v2 Y106))))
def fX4_serveOne_j139 (v1 v2 v3 v4 : Int) (Y : St) : Option (St) := cb 1 (bd v2 16 (nm (setA Y 13 (Int.toNat v2) 1) fun Y107 => nm (setI Y107 22 ((Y107.1 22) + 1)) fun Y108 => bd v2 16 (nm (setA Y108 14 (Int.toNat v2) v1) fun Y109 => bd v2 16 (nm (setA Y109 16 (Int.toNat v2) 1) fun Y110 => if wr (Y110.1 11) = wr 2 then (fX4_serveOne_j188 v1 v2 v3 v4 1 v2 Y110) else (fX4_serveOne_j188 v1 v2 v3 v4 0 v2 Y110)))))
def fX4_serveOne_j136 (v1 v2 v3 v4 s0 : Int) (Y : St) : Option (St) := nm (setI Y 24 s0) fun Y111 => fX4_serveOne_j139 v1 v2 v3 v4 Y111
def fX4_serveOne_j22 (v1 v2 s0 : Int) (Y : St) : Option (St) := nm (setI Y 27 s0) fun Y112 => nm (setI Y112 28 (-1)) fun Y113 => bd v2 16 (if wr (Y113.2 13 (Int.toNat v2)) = 0 then (cls (fX4_fromBook Y113 v2) (fun u => u) fun r115 Y114 => nm r115 fun x116 => nm (Y114.1 22) fun x117 => if wr (Y114.1 22) = wr (Y114.1 12) then (cls (fX4_chosen Y114 v1) (fun u => u) fun r119 Y118 => nm (setI Y118 28 r119) fun Y120 => bd (Y120.1 28) 16 (nm (Y120.2 18 (Int.toNat (Y120.1 28))) fun x121 => bd (Y120.1 28) 16 (nm (setA Y120 18 (Int.toNat (Y120.1 28)) (-1)) fun Y122 => clv (fX4_leave Y122 (Y122.1 28)) (fun u => u) fun Y123 => if wr (Y123.1 11) = wr 3 then (cz (Y123.1 12) (fX4_serveOne_j136 v1 v2 x116 x121 ((remI ((Y123.1 24) + 1) (Y123.1 12))) Y123)) else (fX4_serveOne_j136 v1 v2 x116 x121 ((Y123.1 24)) Y123)))) else (fX4_serveOne_j139 v1 v2 x116 x117 Y114)) else (clv (fX4_hit Y113 v2 v1) (fun u => u) fun Y124 => fX4_serveOne_j236 v1 v2 Y124))
def fX4_serveOne (Y : St) (a0 : Int) : Option (St) := bd a0 300 (nm (Y.2 1 (Int.toNat a0)) fun x1 => bd x1 16 (if wr (Y.2 13 (Int.toNat x1)) = 0 then (fX4_serveOne_j22 a0 x1 0 Y) else (fX4_serveOne_j22 a0 x1 1 Y)))
def fX4_serveTo_l9 : Nat → Int → Int → (St) → Option (St)
  | 0 => fun _ _ _ => none
  | n + 1 => fun v3 v4 Y => if wr v3 < wr v4 then (some Y) else (clv (fX4_serveOne Y v4) (fun u => u) fun Y101 => nm (v4 + 1) fun x102 => (fX4_serveTo_l9 n) v3 x102 Y101)
def fX4_serveTo (Y : St) (a0 a1 a2 : Int) : Option (St) := clv (fX4_begin Y a0 a1) (fun u => u) fun Y1 => nm 0 fun x2 => fX4_serveTo_l9 FU a2 x2 Y1
def fX4_missesOf_j41 (v3 : Int) (Y : St) : Option (Int × (St)) := some (v3, Y)
def fX4_missesOf_l11 : Nat → Int → Int → (St) → Option (Int × (St))
  | 0 => fun _ _ _ => none
  | n + 1 => fun v3 v4 Y => if wr (Y.1 2) ≤ wr v4 then (fX4_missesOf_j41 v3 Y) else (clv (fX4_serveOne Y v4) (fun u => u) fun Y101 => nm (v3 + (1 - (Y101.1 27))) fun x102 => nm (v4 + 1) fun x103 => (fX4_missesOf_l11 n) x102 x103 Y101)
def fX4_missesOf (Y : St) (a0 a1 : Int) : Option (Int × (St)) := clv (fX4_begin Y a0 a1) (fun u => u) fun Y1 => nm 0 fun x2 => nm 0 fun x3 => fX4_missesOf_l11 FU x2 x3 Y1
def fX4_serve_j85 (v1 v2 v3 : Int) (Y : St) : Option (Int × (St)) := cb 1 (nm (setI Y 3 1) fun Y101 => nm (setI Y101 4 v1) fun Y102 => nm (setI Y102 5 v2) fun Y103 => some (v3, Y103))
def fX4_serve_l33 : Nat → Int → Int → Int → Int → (St) → Option (Int × (St))
  | 0 => fun _ _ _ _ _ => none
  | n + 1 => fun v1 v2 v3 v4 Y => if wr (Y.1 2) ≤ wr v4 then (fX4_serve_j85 v1 v2 v3 Y) else (clv (fX4_serveOne Y v4) (fun u => u) fun Y104 => bd v4 300 (nm (setA Y104 6 (Int.toNat v4) (Y104.1 27)) fun Y105 => bd v4 300 (nm (setA Y105 7 (Int.toNat v4) (Y105.1 28)) fun Y106 => nm (v3 + (1 - (Y106.1 27))) fun x107 => nm (v4 + 1) fun x108 => (fX4_serve_l33 n) v1 v2 x107 x108 Y106)))
def fX4_serve_j20 (Y : St) : Option (Int × (St)) := some ((-1), Y)
def fX4_serve (Y : St) (a0 a1 : Int) : Option (Int × (St)) := clp (fX4_in a0 0 8) fun r1 => if wr r1 = 0 then (fX4_serve_j20  Y) else (clp (fX4_in a1 1 8) fun r2 => if wr r2 = 0 then (fX4_serve_j20  Y) else (clv (fX4_begin Y a0 a1) (fun u => u) fun Y3 => nm 0 fun x4 => nm 0 fun x5 => fX4_serve_l33 FU a0 a1 x4 x5 Y3))
def fX4_paid_j56 (v1 : Int) (Y : St) : Option (Int × (St)) := some (v1, Y)
def fX4_paid_j48 (k_14 : Int → Int → (St) → Option (Int × (St))) (v2 s0 s1 : Int) (Y : St) : Option (Int × (St)) := nm (s1 + s0) fun x101 => nm (v2 + 1) fun x102 => k_14 x101 x102 Y
def fX4_paid_l14 : Nat → Int → Int → (St) → Option (Int × (St))
  | 0 => fun _ _ _ => none
  | n + 1 => fun v1 v2 Y => if wr (Y.1 2) ≤ wr v2 then (fX4_paid_j56 v1 Y) else (bd v2 300 (if wr (Y.2 6 (Int.toNat v2)) = wr 1 then (fX4_paid_j48 (fX4_paid_l14 n) v2 0 v1 Y) else (bd v2 300 (bd (Y.2 1 (Int.toNat v2)) 16 (fX4_paid_j48 (fX4_paid_l14 n) v2 ((Y.2 0 (Int.toNat (Y.2 1 (Int.toNat v2))))) v1 Y)))))
def fX4_paid (Y : St) : Option (Int × (St)) := if wr (Y.1 3) = 0 then (some ((-3), Y)) else (nm 0 fun x1 => nm 0 fun x2 => fX4_paid_l14 FU x1 x2 Y)
def fX4_hit__j30 (s0 : Int) (Y : St) : Option (Int × (St)) := some (s0, Y)
def fX4_hit_ (Y : St) (a0 : Int) : Option (Int × (St)) := if wr (Y.1 3) = 0 then (fX4_hit__j30 ((-3)) Y) else (cls (fX4_isAsking Y a0) (fun u => u) fun r2 Y1 => if wr r2 = 0 then (fX4_hit__j30 ((-1)) Y1) else (bd a0 300 (fX4_hit__j30 ((Y1.2 6 (Int.toNat a0))) Y1)))
def fX4_gone_j25 (s0 : Int) (Y : St) : Option (Int × (St)) := some (s0, Y)
def fX4_gone_j24 (Y : St) : Option (Int × (St)) := fX4_gone_j25 ((-1)) Y
def fX4_gone (Y : St) (a0 : Int) : Option (Int × (St)) := if wr (Y.1 3) = 0 then (fX4_gone_j24  Y) else (cls (fX4_isAsking Y a0) (fun u => u) fun r2 Y1 => if wr r2 = 0 then (fX4_gone_j24  Y1) else (bd a0 300 (fX4_gone_j25 ((Y1.2 7 (Int.toNat a0))) Y1)))
def fX4_isOfParts_j22 (s0 : Int) (Y : St) : Option (Int × (St)) := cb s0 (some (s0, Y))
def fX4_isOfParts_j17 (Y : St) : Option (Int × (St)) := fX4_isOfParts_j22 1 Y
def fX4_isOfParts (Y : St) : Option (Int × (St)) := if wr (Y.1 4) = wr 5 then (fX4_isOfParts_j17  Y) else (if wr (Y.1 4) = wr 6 then (fX4_isOfParts_j17  Y) else (fX4_isOfParts_j22 0 Y))
def fX4_isOfWay_j87 (s0 : Int) (Y : St) : Option (Int × (St)) := cb s0 (some (s0, Y))
def fX4_isOfWay_j67 (s0 : Int) (Y : St) : Option (Int × (St)) := cb s0 (some (s0, Y))
def fX4_isOfWay_j53 (s0 : Int) (Y : St) : Option (Int × (St)) := cb s0 (some (s0, Y))
def fX4_isOfWay_j48 (Y : St) : Option (Int × (St)) := fX4_isOfWay_j53 1 Y
def fX4_isOfWay (Y : St) (a0 : Int) : Option (Int × (St)) := if wr a0 = 2 then (if wr (Y.1 4) = wr 2 then (fX4_isOfWay_j48  Y) else (if wr (Y.1 4) = wr 3 then (fX4_isOfWay_j48  Y) else (fX4_isOfWay_j53 0 Y))) else (if wr a0 = 3 then (if wr (Y.1 4) = wr 3 then (fX4_isOfWay_j67 1 Y) else (fX4_isOfWay_j67 0 Y)) else (if wr a0 = 4 then (cls (fX4_isOfParts Y) (fun u => u) fun r5 Y4 => cb r5 (some (r5, Y4))) else (if wr a0 = 5 then (if wr (Y.1 4) = wr 7 then (fX4_isOfWay_j87 1 Y) else (fX4_isOfWay_j87 0 Y)) else (cb 1 (some (1, Y))))))
def fX4_look_j132 (s0 : Int) (Y : St) : Option (Int × (St)) := some (s0, Y)
def fX4_look_j110 (s0 : Int) (Y : St) : Option (Int × (St)) := some (s0, Y)
def fX4_look_j34 (Y : St) : Option (Int × (St)) := some ((-2147483648), Y)
def fX4_look (Y : St) (a0 a1 a2 : Int) : Option (Int × (St)) := if wr (Y.1 3) = 0 then (some ((-3), Y)) else (cls (fX4_isAsking Y a0) (fun u => u) fun r2 Y1 => if wr r2 = 0 then (fX4_look_j34  Y1) else (clp (fX4_isThing a1) fun r3 => if wr r3 = 0 then (fX4_look_j34  Y1) else (clp (fX4_in a2 0 5) fun r4 => if wr r4 = 0 then (fX4_look_j34  Y1) else (cls (fX4_isOfWay Y1 a2) (fun u => u) fun r6 Y5 => if wr r6 = 0 then (some ((-2147483647), Y5)) else (clv (fX4_serveTo Y5 (Y5.1 4) (Y5.1 5) a0) (fun u => u) fun Y7 => if wr a2 = 0 then (bd a1 16 (if wr (Y7.2 13 (Int.toNat a1)) = 0 then (fX4_look_j110 0 Y7) else (fX4_look_j110 1 Y7))) else (if wr a2 = 1 then (bd a1 16 (some ((Y7.2 16 (Int.toNat a1)), Y7))) else (if wr a2 = 2 then (bd a1 16 (if wr (Y7.2 17 (Int.toNat a1)) = 0 then (fX4_look_j132 0 Y7) else (fX4_look_j132 1 Y7))) else (if wr a2 = 3 then (bd a1 16 (some ((Y7.2 18 (Int.toNat a1)), Y7))) else (if wr a2 = 4 then (bd a1 16 (some ((Y7.2 19 (Int.toNat a1)), Y7))) else (bd a1 16 (some ((Y7.2 21 (Int.toNat a1)), Y7))))))))))))
def fX4_level_j140 (s0 : Int) (Y : St) : Option (Int × (St)) := some (s0, Y)
def fX4_level_j76 (v1 v2 : Int) (Y : St) : Option (Int × (St)) := clv (fX4_serveTo Y (Y.1 4) (Y.1 5) v1) (fun u => u) fun Y101 => if wr v2 = 0 then (fX4_level_j140 ((Y101.1 22)) Y101) else (if wr v2 = wr 1 then (fX4_level_j140 ((Y101.1 23)) Y101) else (if wr v2 = wr 2 then (fX4_level_j140 ((Y101.1 24)) Y101) else (if wr v2 = wr 3 then (fX4_level_j140 ((Y101.1 25)) Y101) else (fX4_level_j140 ((Y101.1 26)) Y101))))
def fX4_level_j60 (v1 v2 s0 : Int) (Y : St) : Option (Int × (St)) := nm s0 fun x102 => if wr v2 ≤ 0 then (fX4_level_j76 v1 v2 Y) else (if wr (Y.1 4) = wr x102 then (fX4_level_j76 v1 v2 Y) else (some ((-2147483647), Y)))
def fX4_level_j27 (Y : St) : Option (Int × (St)) := some ((-2147483648), Y)
def fX4_level (Y : St) (a0 a1 : Int) : Option (Int × (St)) := if wr (Y.1 3) = 0 then (some ((-3), Y)) else (cls (fX4_isAsking Y a0) (fun u => u) fun r2 Y1 => if wr r2 = 0 then (fX4_level_j27  Y1) else (clp (fX4_in a1 0 4) fun r3 => if wr r3 = 0 then (fX4_level_j27  Y1) else (if wr a1 = wr 1 then (fX4_level_j60 a0 a1 2 Y1) else (if wr a1 = wr 2 then (fX4_level_j60 a0 a1 3 Y1) else (if wr a1 = wr 3 then (fX4_level_j60 a0 a1 6 Y1) else (fX4_level_j60 a0 a1 7 Y1))))))
def fX4_fewest_j72 (v2 : Int) (Y : St) : Option (Int × (St)) := some (v2, Y)
def fX4_fewest_j65 (k_24 : Int → Int → Int → Int → (St) → Option (Int × (St))) (v1 v2 v4 s0 : Int) (Y : St) : Option (Int × (St)) := nm s0 fun x101 => nm (v4 + 1) fun x102 => k_24 v1 v2 x101 x102 Y
def fX4_fewest_j52 (k_24 : Int → Int → Int → Int → (St) → Option (Int × (St))) (v1 v3 v4 v5 s0 : Int) (Y : St) : Option (Int × (St)) := nm s0 fun x103 => if wr v3 ≤ wr v5 then (fX4_fewest_j65 k_24 v1 x103 v4 v3 Y) else (fX4_fewest_j65 k_24 v1 x103 v4 v5 Y)
def fX4_fewest_l24 : Nat → Int → Int → Int → Int → (St) → Option (Int × (St))
  | 0 => fun _ _ _ _ _ => none
  | n + 1 => fun v1 v2 v3 v4 Y => if wr 8 ≤ wr v4 then (fX4_fewest_j72 v2 Y) else (cls (fX4_missesOf Y v4 v1) (fun u => u) fun r105 Y104 => nm r105 fun x106 => if wr v3 ≤ wr x106 then (fX4_fewest_j52 (fX4_fewest_l24 n) v1 v3 v4 x106 v2 Y104) else (fX4_fewest_j52 (fX4_fewest_l24 n) v1 v3 v4 x106 v4 Y104))
def fX4_fewest (Y : St) (a0 : Int) : Option (Int × (St)) := clp (fX4_in a0 1 8) fun r1 => if wr r1 = 0 then (some ((-1), Y)) else (nm 0 fun x2 => cls (fX4_missesOf Y 0 a0) (fun u => u) fun r4 Y3 => nm r4 fun x5 => nm 1 fun x6 => fX4_fewest_l24 FU a0 x2 x5 x6 Y3)
def fX4_share_j46 (v1 : Int) (Y : St) : Option (Int × (St)) := cf (FP.fdiv (FP.i2f (iz v1)) (FP.i2f (iz (Y.1 2)))) (cf (FP.fmul (FP.fdiv (FP.i2f (iz v1)) (FP.i2f (iz (Y.1 2)))) 1176256512) (some ((f2iI (FP.fmul (FP.fdiv (FP.i2f (iz v1)) (FP.i2f (iz (Y.1 2)))) 1176256512)), Y)))
def fX4_share_l23 : Nat → Int → Int → (St) → Option (Int × (St))
  | 0 => fun _ _ _ => none
  | n + 1 => fun v1 v2 Y => if wr (Y.1 2) ≤ wr v2 then (fX4_share_j46 v1 Y) else (bd v2 300 (nm (v1 + (Y.2 6 (Int.toNat v2))) fun x101 => nm (v2 + 1) fun x102 => (fX4_share_l23 n) x101 x102 Y))
def fX4_share (Y : St) : Option (Int × (St)) := if wr (Y.1 3) = 0 then (some ((-3), Y)) else (if wr (Y.1 2) = 0 then (some ((-1), Y)) else (nm 0 fun x1 => nm 0 fun x2 => fX4_share_l23 FU x1 x2 Y))
def fX4_sizeOf_j24 (v2 : Int) (Y : St) : Option (Int × (St)) := some (v2, Y)
def fX4_sizeOf_l4 : Nat → Int → Int → Int → (St) → Option (Int × (St))
  | 0 => fun _ _ _ _ => none
  | n + 1 => fun v1 v2 v3 Y => if wr 10 ≤ wr v3 then (fX4_sizeOf_j24 v2 Y) else (nm (v2 + (andI (shrI v1 v3) 1)) fun x101 => nm (v3 + 1) fun x102 => (fX4_sizeOf_l4 n) v1 x101 x102 Y)
def fX4_sizeOf (Y : St) (a0 : Int) : Option (Int × (St)) := nm 0 fun x1 => nm 0 fun x2 => fX4_sizeOf_l4 FU a0 x1 x2 Y
def fX4_behind_j15 (v1 v4 s0 : Int) (Y : St) : Option (Int × (St)) := nm s0 fun x101 => bd v1 300 (bd (Y.2 1 (Int.toNat v1)) 16 (bd ((1024 * (v1 + 1)) + (orI x101 (shlI 1 v4))) 308224 (some (((Y.2 0 (Int.toNat (Y.2 1 (Int.toNat v1)))) + (Y.2 30 (Int.toNat ((1024 * (v1 + 1)) + (orI x101 (shlI 1 v4)))))), Y))))
def fX4_behind (Y : St) (a0 a1 a2 a3 : Int) : Option (Int × (St)) := if 0 ≤ wr a2 then (fX4_behind_j15 a0 a3 ((andI a1 (xorI (shlI 1 a2) (-1)))) Y) else (fX4_behind_j15 a0 a3 a1 Y)
def fX4_leastFor_j115 (v5 : Int) (Y : St) : Option (Int × (St)) := some (v5, Y)
def fX4_leastFor_j109 (k_64 : Int → Int → Int → Int → Int → (St) → Option (Int × (St))) (v1 v2 v4 v5 v6 : Int) (Y : St) : Option (Int × (St)) := nm (v6 + 1) fun x101 => k_64 v1 v2 v4 v5 x101 Y
def fX4_leastFor_j107 (k_64 : Int → Int → Int → Int → Int → (St) → Option (Int × (St))) (v1 v2 v4 v6 s0 : Int) (Y : St) : Option (Int × (St)) := nm s0 fun x102 => fX4_leastFor_j109 k_64 v1 v2 v4 x102 v6 Y
def fX4_leastFor_l64 : Nat → Int → Int → Int → Int → Int → (St) → Option (Int × (St))
  | 0 => fun _ _ _ _ _ _ => none
  | n + 1 => fun v1 v2 v4 v5 v6 Y => if wr 10 ≤ wr v6 then (fX4_leastFor_j115 v5 Y) else (if wr (andI (shrI v2 v6) 1) = wr 1 then (cls (fX4_behind Y v1 v2 v6 v4) (fun u => u) fun r104 Y103 => nm r104 fun x105 => if wr v5 ≤ wr x105 then (fX4_leastFor_j107 (fX4_leastFor_l64 n) v1 v2 v4 v6 v5 Y103) else (fX4_leastFor_j107 (fX4_leastFor_l64 n) v1 v2 v4 v6 x105 Y103)) else (fX4_leastFor_j109 (fX4_leastFor_l64 n) v1 v2 v4 v5 v6 Y))
def fX4_leastFor (Y : St) (a0 a1 a2 : Int) : Option (Int × (St)) := bd a0 300 (bd (Y.2 1 (Int.toNat a0)) 16 (nm (Y.2 29 (Int.toNat (Y.2 1 (Int.toNat a0)))) fun x1 => if wr (andI (shrI a1 x1) 1) = wr 1 then (bd ((1024 * (a0 + 1)) + a1) 308224 (some ((Y.2 30 (Int.toNat ((1024 * (a0 + 1)) + a1))), Y))) else (cls (fX4_sizeOf Y a1) (fun u => u) fun r3 Y2 => if wr a2 ≤ wr r3 then (nm 2147483647 fun x4 => nm 0 fun x5 => fX4_leastFor_l64 FU a0 a1 x1 x4 x5 Y2) else (cls (fX4_behind Y2 a0 a1 (-1) x1) (fun u => u) fun r7 Y6 => some (r7, Y6)))))
def fX4_findLeast_j174 (k_109 : Int → Int → (St) → Option (Int × (St))) (v1 v3 : Int) (Y : St) : Option (Int × (St)) := nm (v3 + (-1)) fun x101 => k_109 v1 x101 Y
def fX4_findLeast_j167 (k_109 : Int → Int → (St) → Option (Int × (St))) (k_116 : Int → Int → Int → (St) → Option (Int × (St))) (v1 v3 v4 s0 s1 : Int) (Y : St) : Option (Int × (St)) := bd s1 308224 (nm (setA Y 30 (Int.toNat s1) s0) fun Y102 => nm (v4 + 1) fun x103 => k_116 v1 v3 x103 Y102)
def fX4_findLeast_j155 (k_109 : Int → Int → (St) → Option (Int × (St))) (k_116 : Int → Int → Int → (St) → Option (Int × (St))) (v1 v3 v4 s0 : Int) (Y : St) : Option (Int × (St)) := fX4_findLeast_j167 k_109 k_116 v1 v3 v4 0 s0 Y
def fX4_findLeast_l116 (k_109 : Int → Int → (St) → Option (Int × (St))) : Nat → Int → Int → Int → (St) → Option (Int × (St))
  | 0 => fun _ _ _ _ => none
  | n + 1 => fun v1 v3 v4 Y => if wr (Y.1 31) ≤ wr v4 then (fX4_findLeast_j174 k_109 v1 v3 Y) else (if wr v3 = wr (Y.1 2) then (fX4_findLeast_j155 k_109 (fX4_findLeast_l116 k_109 n) v1 v3 v4 (((1024 * v3) + v4)) Y) else (cls (fX4_sizeOf Y v4) (fun u => u) fun r105 Y104 => if wr r105 ≤ wr v1 then (cls (fX4_leastFor Y104 v3 v4 v1) (fun u => u) fun r107 Y106 => fX4_findLeast_j167 k_109 (fX4_findLeast_l116 k_109 n) v1 v3 v4 r107 (((1024 * v3) + v4)) Y106) else (fX4_findLeast_j155 k_109 (fX4_findLeast_l116 k_109 n) v1 v3 v4 (((1024 * v3) + v4)) Y104)))
def fX4_findLeast_l109 : Nat → Int → Int → (St) → Option (Int × (St))
  | 0 => fun _ _ _ => none
  | n + 1 => fun v1 v3 Y => if wr v3 < 0 then (cb 1 (some (1, Y))) else (nm 0 fun x108 => fX4_findLeast_l116 (fX4_findLeast_l109 n) FU v1 v3 x108 Y)
def fX4_findLeast_j89 (v1 v2 : Int) (Y : St) : Option (Int × (St)) := if wr v2 ≤ wr 10 then (nm (setI Y 31 (shlI 1 v2)) fun Y109 => nm (Y109.1 2) fun x110 => fX4_findLeast_l109 FU v1 x110 Y109) else (cb 0 (some (0, Y)))
def fX4_findLeast_j81 (k_4 : Int → Int → Int → (St) → Option (Int × (St))) (v1 v3 s0 s1 : Int) (Y : St) : Option (Int × (St)) := nm (s1 + s0) fun x111 => nm (v3 + 1) fun x112 => k_4 v1 x111 x112 Y
def fX4_findLeast_j66 (k_4 : Int → Int → Int → (St) → Option (Int × (St))) (v1 v2 v3 : Int) (Y : St) : Option (Int × (St)) := bd v3 16 (if wr (Y.2 29 (Int.toNat v3)) < 0 then (fX4_findLeast_j81 k_4 v1 v3 0 v2 Y) else (fX4_findLeast_j81 k_4 v1 v3 1 v2 Y))
def fX4_findLeast_j59 (k_4 : Int → Int → Int → (St) → Option (Int × (St))) (k_20 : Int → Int → Int → Int → (St) → Option (Int × (St))) (v1 v2 v3 v4 s0 s1 : Int) (Y : St) : Option (Int × (St)) := bd s1 16 (nm (setA Y 29 (Int.toNat s1) s0) fun Y113 => nm (v4 + 1) fun x114 => k_20 v1 v2 v3 x114 Y113)
def fX4_findLeast_l20 (k_4 : Int → Int → Int → (St) → Option (Int × (St))) : Nat → Int → Int → Int → Int → (St) → Option (Int × (St))
  | 0 => fun _ _ _ _ _ => none
  | n + 1 => fun v1 v2 v3 v4 Y => if wr (Y.1 2) ≤ wr v4 then (fX4_findLeast_j66 k_4 v1 v2 v3 Y) else (bd v3 16 (if 0 ≤ wr (Y.2 29 (Int.toNat v3)) then (fX4_findLeast_j66 k_4 v1 v2 v3 Y) else (bd v4 300 (if wr (Y.2 1 (Int.toNat v4)) = wr v3 then (fX4_findLeast_j59 k_4 (fX4_findLeast_l20 k_4 n) v1 v2 v3 v4 v2 v3 Y) else (fX4_findLeast_j59 k_4 (fX4_findLeast_l20 k_4 n) v1 v2 v3 v4 ((-1)) v3 Y)))))
def fX4_findLeast_l4 : Nat → Int → Int → Int → (St) → Option (Int × (St))
  | 0 => fun _ _ _ _ => none
  | n + 1 => fun v1 v2 v3 Y => if wr 16 ≤ wr v3 then (fX4_findLeast_j89 v1 v2 Y) else (bd v3 16 (nm (setA Y 29 (Int.toNat v3) (-1)) fun Y115 => nm 0 fun x116 => fX4_findLeast_l20 (fX4_findLeast_l4 n) FU v1 v2 v3 x116 Y115))
def fX4_findLeast (Y : St) (a0 : Int) : Option (Int × (St)) := nm 0 fun x1 => nm 0 fun x2 => fX4_findLeast_l4 FU a0 x1 x2 Y
def fX4_least__j31 (s0 : Int) (Y : St) : Option (Int × (St)) := some (s0, Y)
def fX4_least_ (Y : St) (a0 : Int) : Option (Int × (St)) := clp (fX4_in a0 1 8) fun r1 => if wr r1 = 0 then (some ((-1), Y)) else (cls (fX4_findLeast Y a0) (fun u => u) fun r3 Y2 => if wr r3 = 0 then (fX4_least__j31 ((-5)) Y2) else (bd 0 308224 (fX4_least__j31 ((Y2.2 30 (Int.toNat 0))) Y2)))
def fX4_thingAt_j32 (v2 : Int) (Y : St) : Option (Int × (St)) := some (v2, Y)
def fX4_thingAt_j25 (k_4 : Int → Int → Int → (St) → Option (Int × (St))) (v1 v3 s0 : Int) (Y : St) : Option (Int × (St)) := nm s0 fun x101 => nm (v3 + 1) fun x102 => k_4 v1 x101 x102 Y
def fX4_thingAt_l4 : Nat → Int → Int → Int → (St) → Option (Int × (St))
  | 0 => fun _ _ _ _ => none
  | n + 1 => fun v1 v2 v3 Y => if wr 16 ≤ wr v3 then (fX4_thingAt_j32 v2 Y) else (bd v3 16 (if wr (Y.2 29 (Int.toNat v3)) = wr v1 then (fX4_thingAt_j25 (fX4_thingAt_l4 n) v1 v3 v3 Y) else (fX4_thingAt_j25 (fX4_thingAt_l4 n) v1 v3 v2 Y)))
def fX4_thingAt (Y : St) (a0 : Int) : Option (Int × (St)) := nm (-1) fun x1 => nm 0 fun x2 => fX4_thingAt_l4 FU a0 x1 x2 Y
def fX4_goes_j182 (s0 : Int) (Y : St) : Option (Int × (St)) := some (s0, Y)
def fX4_goes_j167 (v4 : Int) (Y : St) : Option (Int × (St)) := if 0 ≤ wr v4 then (cls (fX4_thingAt Y v4) (fun u => u) fun r102 Y101 => fX4_goes_j182 r102 Y101) else (fX4_goes_j182 ((-1)) Y)
def fX4_goes_j161 (k_36 : Int → Int → Int → Int → Int → (St) → Option (Int × (St))) (v1 v2 v3 v4 v5 : Int) (Y : St) : Option (Int × (St)) := nm (v5 + 1) fun x103 => k_36 v1 v2 v3 v4 x103 Y
def fX4_goes_j155 (k_36 : Int → Int → Int → Int → Int → (St) → Option (Int × (St))) (v1 v2 v4 v5 v6 s0 : Int) (Y : St) : Option (Int × (St)) := nm (orI s0 (shlI 1 v6)) fun x104 => fX4_goes_j161 k_36 v1 v2 x104 v4 v5 Y
def fX4_goes_j138 (k_36 : Int → Int → Int → Int → Int → (St) → Option (Int × (St))) (v1 v2 v3 v4 v5 v6 : Int) (Y : St) : Option (Int × (St)) := if 0 ≤ wr v4 then (fX4_goes_j155 k_36 v1 v2 v4 v5 v6 ((andI v3 (xorI (shlI 1 v4) (-1)))) Y) else (fX4_goes_j155 k_36 v1 v2 v4 v5 v6 v3 Y)
def fX4_goes_j130 (k_36 : Int → Int → Int → Int → Int → (St) → Option (Int × (St))) (k_72 : Int → Int → Int → Int → Int → Int → Int → (St) → Option (Int × (St))) (v1 v2 v3 v5 v6 v7 s0 : Int) (Y : St) : Option (Int × (St)) := nm s0 fun x105 => nm (v7 + (-1)) fun x106 => k_72 v1 v2 v3 x105 v5 v6 x106 Y
def fX4_goes_j128 (k_36 : Int → Int → Int → Int → Int → (St) → Option (Int × (St))) (k_72 : Int → Int → Int → Int → Int → Int → Int → (St) → Option (Int × (St))) (v1 v2 v3 v4 v5 v6 v7 : Int) (Y : St) : Option (Int × (St)) := fX4_goes_j130 k_36 k_72 v1 v2 v3 v5 v6 v7 v4 Y
def fX4_goes_l72 (k_36 : Int → Int → Int → Int → Int → (St) → Option (Int × (St))) : Nat → Int → Int → Int → Int → Int → Int → Int → (St) → Option (Int × (St))
  | 0 => fun _ _ _ _ _ _ _ _ => none
  | n + 1 => fun v1 v2 v3 v4 v5 v6 v7 Y => if wr v7 < 0 then (fX4_goes_j138 k_36 v1 v2 v3 v4 v5 v6 Y) else (cls (fX4_sizeOf Y v3) (fun u => u) fun r108 Y107 => if wr r108 = wr v1 then (if wr (andI (shrI v3 v7) 1) = wr 1 then (cls (fX4_behind Y107 v5 v3 v7 v6) (fun u => u) fun r110 Y109 => bd ((1024 * v5) + v3) 308224 (if wr r110 = wr (Y109.2 30 (Int.toNat ((1024 * v5) + v3))) then (fX4_goes_j130 k_36 (fX4_goes_l72 k_36 n) v1 v2 v3 v5 v6 v7 v7 Y109) else (fX4_goes_j128 k_36 (fX4_goes_l72 k_36 n) v1 v2 v3 v4 v5 v6 v7 Y109))) else (fX4_goes_j128 k_36 (fX4_goes_l72 k_36 n) v1 v2 v3 v4 v5 v6 v7 Y107)) else (fX4_goes_j138 k_36 v1 v2 v3 v4 v5 v6 Y107))
def fX4_goes_l36 : Nat → Int → Int → Int → Int → Int → (St) → Option (Int × (St))
  | 0 => fun _ _ _ _ _ _ => none
  | n + 1 => fun v1 v2 v3 v4 v5 Y => if wr v2 < wr v5 then (fX4_goes_j167 v4 Y) else (bd v5 300 (bd (Y.2 1 (Int.toNat v5)) 16 (nm (Y.2 29 (Int.toNat (Y.2 1 (Int.toNat v5)))) fun x111 => nm (-1) fun x112 => if wr (andI (shrI v3 x111) 1) = 0 then (nm 9 fun x113 => fX4_goes_l72 (fX4_goes_l36 n) FU v1 v2 v3 x112 v5 x111 x113 Y) else (fX4_goes_j161 (fX4_goes_l36 n) v1 v2 v3 x112 v5 Y))))
def fX4_goes_j26 (Y : St) : Option (Int × (St)) := some ((-1), Y)
def fX4_goes (Y : St) (a0 a1 : Int) : Option (Int × (St)) := clp (fX4_in a0 1 8) fun r1 => if wr r1 = 0 then (fX4_goes_j26  Y) else (cls (fX4_isAsking Y a1) (fun u => u) fun r3 Y2 => if wr r3 = 0 then (fX4_goes_j26  Y2) else (cls (fX4_findLeast Y2 a0) (fun u => u) fun r5 Y4 => if wr r5 = 0 then (fX4_goes_j26  Y4) else (nm 0 fun x6 => nm (-1) fun x7 => nm 0 fun x8 => fX4_goes_l36 FU a0 a1 x6 x7 x8 Y4)))
def fX4_phaseOf_j113 (v3 : Int) (Y : St) : Option (Int × (St)) := some (v3, Y)
def fX4_phaseOf_j91 (k_8 : Int → Int → Int → Int → Int → (St) → Option (Int × (St))) (v1 v2 v3 v5 s0 s1 : Int) (Y : St) : Option (Int × (St)) := nm (s1 + s0) fun x101 => bd v5 300 (cb 1 (bd (Y.2 1 (Int.toNat v5)) 16 (nm (setA Y 32 (Int.toNat (Y.2 1 (Int.toNat v5))) 1) fun Y102 => nm (v5 + 1) fun x103 => k_8 v1 v2 v3 x101 x103 Y102)))
def fX4_phaseOf_j69 (k_8 : Int → Int → Int → Int → Int → (St) → Option (Int × (St))) (v1 v2 v3 v4 v5 : Int) (Y : St) : Option (Int × (St)) := bd v5 300 (bd (Y.2 1 (Int.toNat v5)) 16 (if wr (Y.2 32 (Int.toNat (Y.2 1 (Int.toNat v5)))) = 0 then (fX4_phaseOf_j91 k_8 v1 v2 v3 v5 1 v4 Y) else (fX4_phaseOf_j91 k_8 v1 v2 v3 v5 0 v4 Y)))
def fX4_phaseOf_l48 (k_8 : Int → Int → Int → Int → Int → (St) → Option (Int × (St))) : Nat → Int → Int → Int → Int → Int → Int → (St) → Option (Int × (St))
  | 0 => fun _ _ _ _ _ _ _ => none
  | n + 1 => fun v1 v2 v3 v4 v5 v6 Y => if wr 16 ≤ wr v6 then (fX4_phaseOf_j69 k_8 v1 v2 v3 v4 v5 Y) else (cb 0 (bd v6 16 (nm (setA Y 32 (Int.toNat v6) 0) fun Y104 => nm (v6 + 1) fun x105 => (fX4_phaseOf_l48 k_8 n) v1 v2 v3 v4 v5 x105 Y104)))
def fX4_phaseOf_j39 (k_8 : Int → Int → Int → Int → Int → (St) → Option (Int × (St))) (v1 v2 v3 v5 : Int) (Y : St) : Option (Int × (St)) := nm (v3 + 1) fun x106 => nm 0 fun x107 => nm 0 fun x108 => fX4_phaseOf_l48 k_8 FU v1 v2 x106 x107 v5 x108 Y
def fX4_phaseOf_l8 : Nat → Int → Int → Int → Int → Int → (St) → Option (Int × (St))
  | 0 => fun _ _ _ _ _ _ => none
  | n + 1 => fun v1 v2 v3 v4 v5 Y => if wr v2 < wr v5 then (fX4_phaseOf_j113 v3 Y) else (if wr v3 < 0 then (fX4_phaseOf_j39 (fX4_phaseOf_l8 n) v1 v2 v3 v5 Y) else (bd v5 300 (bd (Y.2 1 (Int.toNat v5)) 16 (if wr (Y.2 32 (Int.toNat (Y.2 1 (Int.toNat v5)))) = 0 then (if wr v4 = wr v1 then (fX4_phaseOf_j39 (fX4_phaseOf_l8 n) v1 v2 v3 v5 Y) else (fX4_phaseOf_j69 (fX4_phaseOf_l8 n) v1 v2 v3 v4 v5 Y)) else (fX4_phaseOf_j69 (fX4_phaseOf_l8 n) v1 v2 v3 v4 v5 Y)))))
def fX4_phaseOf (Y : St) (a0 a1 : Int) : Option (Int × (St)) := nm (-1) fun x1 => nm a0 fun x2 => nm 0 fun x3 => fX4_phaseOf_l8 FU a0 a1 x1 x2 x3 Y
def fX4_phases_j27 (s0 : Int) (Y : St) : Option (Int × (St)) := some (s0, Y)
def fX4_phases (Y : St) (a0 : Int) : Option (Int × (St)) := clp (fX4_in a0 1 8) fun r1 => if wr r1 = 0 then (fX4_phases_j27 ((-1)) Y) else (cls (fX4_phaseOf Y a0 ((Y.1 2) - 1)) (fun u => u) fun r3 Y2 => fX4_phases_j27 ((r3 + 1)) Y2)
def fX4_phase_j28 (s0 : Int) (Y : St) : Option (Int × (St)) := some (s0, Y)
def fX4_phase_j27 (Y : St) : Option (Int × (St)) := fX4_phase_j28 ((-1)) Y
def fX4_phase (Y : St) (a0 a1 : Int) : Option (Int × (St)) := clp (fX4_in a0 1 8) fun r1 => if wr r1 = 0 then (fX4_phase_j27  Y) else (cls (fX4_isAsking Y a1) (fun u => u) fun r3 Y2 => if wr r3 = 0 then (fX4_phase_j27  Y2) else (cls (fX4_phaseOf Y2 a0 a1) (fun u => u) fun r5 Y4 => fX4_phase_j28 r5 Y4))
def fX4_distanceOf_j117 (v3 : Int) (Y : St) : Option (Int × (St)) := some (v3, Y)
def fX4_distanceOf_j109 (k_42 : Int → Int → Int → Int → (St) → Option (Int × (St))) (v1 v2 v4 s0 s1 : Int) (Y : St) : Option (Int × (St)) := nm (s1 + s0) fun x101 => nm (v4 + 1) fun x102 => k_42 v1 v2 x101 x102 Y
def fX4_distanceOf_j98 (k_42 : Int → Int → Int → Int → (St) → Option (Int × (St))) (v1 v2 v3 v4 v5 : Int) (Y : St) : Option (Int × (St)) := if wr v5 = 0 then (fX4_distanceOf_j109 k_42 v1 v2 v4 0 v3 Y) else (fX4_distanceOf_j109 k_42 v1 v2 v4 1 v3 Y)
def fX4_distanceOf_j90 (k_42 : Int → Int → Int → Int → (St) → Option (Int × (St))) (k_56 : Int → Int → Int → Int → Int → Int → (St) → Option (Int × (St))) (v1 v2 v3 v4 v6 s0 : Int) (Y : St) : Option (Int × (St)) := nm s0 fun x103 => nm (v6 + 1) fun x104 => k_56 v1 v2 v3 v4 x103 x104 Y
def fX4_distanceOf_j89 (k_42 : Int → Int → Int → Int → (St) → Option (Int × (St))) (k_56 : Int → Int → Int → Int → Int → Int → (St) → Option (Int × (St))) (v1 v2 v3 v4 v6 : Int) (Y : St) : Option (Int × (St)) := fX4_distanceOf_j90 k_42 k_56 v1 v2 v3 v4 v6 0 Y
def fX4_distanceOf_l56 (k_42 : Int → Int → Int → Int → (St) → Option (Int × (St))) : Nat → Int → Int → Int → Int → Int → Int → (St) → Option (Int × (St))
  | 0 => fun _ _ _ _ _ _ _ => none
  | n + 1 => fun v1 v2 v3 v4 v5 v6 Y => if wr v4 ≤ wr v6 then (fX4_distanceOf_j98 k_42 v1 v2 v3 v4 v5 Y) else (if wr v5 = 0 then (fX4_distanceOf_j89 k_42 (fX4_distanceOf_l56 k_42 n) v1 v2 v3 v4 v6 Y) else (bd v6 300 (bd v4 300 (if wr (Y.2 1 (Int.toNat v6)) = wr (Y.2 1 (Int.toNat v4)) then (fX4_distanceOf_j89 k_42 (fX4_distanceOf_l56 k_42 n) v1 v2 v3 v4 v6 Y) else (fX4_distanceOf_j90 k_42 (fX4_distanceOf_l56 k_42 n) v1 v2 v3 v4 v6 1 Y)))))
def fX4_distanceOf_l42 : Nat → Int → Int → Int → Int → (St) → Option (Int × (St))
  | 0 => fun _ _ _ _ _ => none
  | n + 1 => fun v1 v2 v3 v4 Y => if wr v1 < wr v4 then (fX4_distanceOf_j117 v3 Y) else (nm 1 fun x105 => nm (v2 + 1) fun x106 => fX4_distanceOf_l56 (fX4_distanceOf_l42 n) FU v1 v2 v3 v4 x105 x106 Y)
def fX4_distanceOf_j29 (v1 v2 : Int) (Y : St) : Option (Int × (St)) := if 0 ≤ wr v2 then (nm 0 fun x107 => nm (v2 + 1) fun x108 => fX4_distanceOf_l42 FU v1 v2 x107 x108 Y) else (some (0, Y))
def fX4_distanceOf_l4 : Nat → Int → Int → (St) → Option (Int × (St))
  | 0 => fun _ _ _ => none
  | n + 1 => fun v1 v2 Y => if wr v2 < 0 then (fX4_distanceOf_j29 v1 v2 Y) else (bd v2 300 (bd v1 300 (if wr (Y.2 1 (Int.toNat v2)) = wr (Y.2 1 (Int.toNat v1)) then (fX4_distanceOf_j29 v1 v2 Y) else (nm (v2 + (-1)) fun x109 => (fX4_distanceOf_l4 n) v1 x109 Y))))
def fX4_distanceOf (Y : St) (a0 : Int) : Option (Int × (St)) := nm (a0 - 1) fun x1 => fX4_distanceOf_l4 FU a0 x1 Y
def fX4_distance_j17 (s0 : Int) (Y : St) : Option (Int × (St)) := some (s0, Y)
def fX4_distance (Y : St) (a0 : Int) : Option (Int × (St)) := cls (fX4_isAsking Y a0) (fun u => u) fun r2 Y1 => if wr r2 = 0 then (fX4_distance_j17 ((-1)) Y1) else (cls (fX4_distanceOf Y1 a0) (fun u => u) fun r4 Y3 => fX4_distance_j17 r4 Y3)
def fX4_curve_j50 (v2 : Int) (Y : St) : Option (Int × (St)) := some (v2, Y)
def fX4_curve_j42 (k_10 : Int → Int → Int → (St) → Option (Int × (St))) (v1 v3 s0 s1 : Int) (Y : St) : Option (Int × (St)) := nm (s1 + s0) fun x101 => nm (v3 + 1) fun x102 => k_10 v1 x101 x102 Y
def fX4_curve_j37 (k_10 : Int → Int → Int → (St) → Option (Int × (St))) (v1 v3 s0 : Int) (Y : St) : Option (Int × (St)) := fX4_curve_j42 k_10 v1 v3 1 s0 Y
def fX4_curve_l10 : Nat → Int → Int → Int → (St) → Option (Int × (St))
  | 0 => fun _ _ _ _ => none
  | n + 1 => fun v1 v2 v3 Y => if wr (Y.1 2) ≤ wr v3 then (fX4_curve_j50 v2 Y) else (cls (fX4_distanceOf Y v3) (fun u => u) fun r104 Y103 => nm r104 fun x105 => if wr x105 = 0 then (fX4_curve_j37 (fX4_curve_l10 n) v1 v3 v2 Y103) else (if wr x105 ≤ wr v1 then (fX4_curve_j42 (fX4_curve_l10 n) v1 v3 0 v2 Y103) else (fX4_curve_j37 (fX4_curve_l10 n) v1 v3 v2 Y103)))
def fX4_curve (Y : St) (a0 : Int) : Option (Int × (St)) := if 0 ≤ wr a0 then (nm 0 fun x1 => nm 0 fun x2 => fX4_curve_l10 FU a0 x1 x2 Y) else (some ((-1), Y))
def fX4_hard_j104 (v3 : Int) (Y : St) : Option (Int × (St)) := some (v3, Y)
def fX4_hard_j86 (k_61 : Int → Int → (St) → Option (Int × (St))) (v3 v4 v5 : Int) (Y : St) : Option (Int × (St)) := clv (fX4_add Y v5) (fun u => u) fun Y101 => clv (fX4_serveOne Y101 v4) (fun u => u) fun Y102 => nm (v4 + 1) fun x103 => k_61 v3 x103 Y102
def fX4_hard_l70 (k_61 : Int → Int → (St) → Option (Int × (St))) : Nat → Int → Int → Int → (St) → Option (Int × (St))
  | 0 => fun _ _ _ _ => none
  | n + 1 => fun v3 v4 v5 Y => bd v5 16 (if wr (Y.2 13 (Int.toNat v5)) = 0 then (fX4_hard_j86 k_61 v3 v4 v5 Y) else (nm (v5 + 1) fun x104 => (fX4_hard_l70 k_61 n) v3 v4 x104 Y))
def fX4_hard_l61 : Nat → Int → Int → (St) → Option (Int × (St))
  | 0 => fun _ _ _ => none
  | n + 1 => fun v3 v4 Y => if wr v3 ≤ wr v4 then (fX4_hard_j104 v3 Y) else (nm 0 fun x105 => fX4_hard_l70 (fX4_hard_l61 n) FU v3 v4 x105 Y)
def fX4_hard_j31 (Y : St) : Option (Int × (St)) := some ((-1), Y)
def fX4_hard (Y : St) (a0 a1 a2 : Int) : Option (Int × (St)) := clp (fX4_in a0 0 8) fun r1 => if wr r1 = 0 then (fX4_hard_j31  Y) else (clp (fX4_in a1 1 8) fun r2 => if wr r2 = 0 then (fX4_hard_j31  Y) else (clp (fX4_in a2 0 300) fun r3 => if wr r3 = 0 then (fX4_hard_j31  Y) else (if wr a0 = wr 8 then (some ((-4), Y)) else (nm (setI Y 2 0) fun Y4 => cb 0 (nm (setI Y4 3 0) fun Y5 => clv (fX4_begin Y5 a0 a1) (fun u => u) fun Y6 => nm 0 fun x7 => fX4_hard_l61 FU a2 x7 Y6)))))
def fX4_claim (Y : St) (a0 : Int) : Option (Int × (St)) := clp (fX4_in a0 (-1) 15) fun r1 => if wr r1 = 0 then (some ((-1), Y)) else (if wr (Y.1 9) = wr 300 then (some ((-2), Y)) else (bd (Y.1 9) 300 (nm (setA Y 8 (Int.toNat (Y.1 9)) a0) fun Y2 => nm (setI Y2 9 ((Y2.1 9) + 1)) fun Y3 => some ((Y3.1 9), Y3))))
def fX4_copy_j46 (Y : St) : Option (Int × (St)) := some ((Y.1 9), Y)
def fX4_copy_l20 : Nat → Int → (St) → Option (Int × (St))
  | 0 => fun _ _ => none
  | n + 1 => fun v1 Y => if wr (Y.1 2) ≤ wr v1 then (fX4_copy_j46  Y) else (bd v1 300 (bd v1 300 (nm (setA Y 8 (Int.toNat v1) (Y.2 7 (Int.toNat v1))) fun Y101 => nm (v1 + 1) fun x102 => (fX4_copy_l20 n) x102 Y101)))
def fX4_copy (Y : St) : Option (Int × (St)) := if wr (Y.1 3) = 0 then (some ((-3), Y)) else (nm (setI Y 9 (Y.1 2)) fun Y1 => nm 0 fun x2 => fX4_copy_l20 FU x2 Y1)
def fX4_unclaim (Y : St) : Option (Int × (St)) := nm (Y.1 9) fun x1 => nm (setI Y 9 0) fun Y2 => some (x1, Y2)
def fX4_cost_j235 (s0 : Int) (Y : St) : Option (Int × (St)) := some (s0, Y)
def fX4_cost_j213 (v3 : Int) (Y : St) : Option (Int × (St)) := if wr (Y.1 9) ≤ wr (Y.1 2) then (fX4_cost_j235 v3 Y) else (fX4_cost_j235 (((-2) - (Y.1 2))) Y)
def fX4_cost_j207 (k_40 : Int → Int → Int → Int → (St) → Option (Int × (St))) (v1 v2 v3 v4 : Int) (Y : St) : Option (Int × (St)) := nm (v4 + 1) fun x101 => k_40 v1 v2 v3 x101 Y
def fX4_cost_j171 (k_40 : Int → Int → Int → Int → (St) → Option (Int × (St))) (v1 v2 v3 v4 v6 : Int) (Y : St) : Option (Int × (St)) := if wr v6 = 0 then (bd v4 300 (cb 1 (bd (Y.2 1 (Int.toNat v4)) 16 (nm (setA Y 33 (Int.toNat (Y.2 1 (Int.toNat v4))) 1) fun Y102 => nm (v2 + 1) fun x103 => bd v4 300 (bd (Y102.2 1 (Int.toNat v4)) 16 (nm (v3 + (Y102.2 0 (Int.toNat (Y102.2 1 (Int.toNat v4))))) fun x104 => fX4_cost_j207 k_40 v1 x103 x104 v4 Y102)))))) else (fX4_cost_j207 k_40 v1 v2 v3 v4 Y)
def fX4_cost_j149 (v4 : Int) (Y : St) : Option (Int × (St)) := some (((-2) - v4), Y)
def fX4_cost_j142 (k_40 : Int → Int → Int → Int → (St) → Option (Int × (St))) (v1 v2 v3 v4 v5 v6 v7 s0 : Int) (Y : St) : Option (Int × (St)) := nm s0 fun x105 => if wr x105 = 0 then (fX4_cost_j149 v4 Y) else (if wr v7 = 0 then (fX4_cost_j171 k_40 v1 v2 v3 v4 v6 Y) else (cb 0 (bd v5 16 (nm (setA Y 33 (Int.toNat v5) 0) fun Y106 => nm (v2 + (-1)) fun x107 => fX4_cost_j171 k_40 v1 x107 v3 v4 v6 Y106))))
def fX4_cost_j127 (k_40 : Int → Int → Int → Int → (St) → Option (Int × (St))) (v1 v2 v3 v4 v5 v6 v7 : Int) (Y : St) : Option (Int × (St)) := fX4_cost_j142 k_40 v1 v2 v3 v4 v5 v6 v7 0 Y
def fX4_cost_j101 (k_40 : Int → Int → Int → Int → (St) → Option (Int × (St))) (v1 v2 v3 v4 v5 v6 s0 : Int) (Y : St) : Option (Int × (St)) := nm s0 fun x108 => if wr x108 = 0 then (if wr v5 = wr (-1) then (fX4_cost_j142 k_40 v1 v2 v3 v4 v5 v6 x108 1 Y) else (fX4_cost_j142 k_40 v1 v2 v3 v4 v5 v6 x108 0 Y)) else (if wr v5 < 0 then (fX4_cost_j127 k_40 v1 v2 v3 v4 v5 v6 x108 Y) else (bd v5 16 (if wr (Y.2 33 (Int.toNat v5)) = 0 then (fX4_cost_j127 k_40 v1 v2 v3 v4 v5 v6 x108 Y) else (fX4_cost_j142 k_40 v1 v2 v3 v4 v5 v6 x108 1 Y))))
def fX4_cost_j100 (k_40 : Int → Int → Int → Int → (St) → Option (Int × (St))) (v1 v2 v3 v4 v5 v6 : Int) (Y : St) : Option (Int × (St)) := fX4_cost_j101 k_40 v1 v2 v3 v4 v5 v6 0 Y
def fX4_cost_j70 (k_40 : Int → Int → Int → Int → (St) → Option (Int × (St))) (v1 v2 v3 v4 s0 : Int) (Y : St) : Option (Int × (St)) := nm s0 fun x109 => bd v4 300 (bd (Y.2 1 (Int.toNat v4)) 16 (nm (Y.2 33 (Int.toNat (Y.2 1 (Int.toNat v4)))) fun x110 => if wr x110 = 0 then (if wr v2 = wr v1 then (fX4_cost_j101 k_40 v1 v2 v3 v4 x109 x110 1 Y) else (fX4_cost_j100 k_40 v1 v2 v3 v4 x109 x110 Y)) else (fX4_cost_j100 k_40 v1 v2 v3 v4 x109 x110 Y)))
def fX4_cost_l40 : Nat → Int → Int → Int → Int → (St) → Option (Int × (St))
  | 0 => fun _ _ _ _ _ => none
  | n + 1 => fun v1 v2 v3 v4 Y => if wr (Y.1 2) ≤ wr v4 then (fX4_cost_j213 v3 Y) else (if wr (Y.1 9) ≤ wr v4 then (fX4_cost_j70 (fX4_cost_l40 n) v1 v2 v3 v4 ((-2)) Y) else (bd v4 300 (fX4_cost_j70 (fX4_cost_l40 n) v1 v2 v3 v4 ((Y.2 8 (Int.toNat v4))) Y)))
def fX4_cost_l14 : Nat → Int → Int → (St) → Option (Int × (St))
  | 0 => fun _ _ _ => none
  | n + 1 => fun v1 v2 Y => if wr 16 ≤ wr v2 then (nm 0 fun x111 => nm 0 fun x112 => nm 0 fun x113 => fX4_cost_l40 FU v1 x111 x112 x113 Y) else (cb 0 (bd v2 16 (nm (setA Y 33 (Int.toNat v2) 0) fun Y114 => nm (v2 + 1) fun x115 => (fX4_cost_l14 n) v1 x115 Y114)))
def fX4_cost (Y : St) (a0 : Int) : Option (Int × (St)) := clp (fX4_in a0 1 8) fun r1 => if wr r1 = 0 then (some ((-1), Y)) else (nm 0 fun x2 => fX4_cost_l14 FU a0 x2 Y)
def fX4_check_j92 (s0 : Int) (Y : St) : Option (Int × (St)) := some (s0, Y)
def fX4_check_j73 (Y : St) : Option (Int × (St)) := if wr (Y.1 9) ≤ wr (Y.1 2) then (fX4_check_j92 ((-1)) Y) else (fX4_check_j92 ((Y.1 2)) Y)
def fX4_check_j65 (v3 : Int) (Y : St) : Option (Int × (St)) := some (v3, Y)
def fX4_check_l31 : Nat → Int → (St) → Option (Int × (St))
  | 0 => fun _ _ => none
  | n + 1 => fun v3 Y => if wr (Y.1 2) ≤ wr v3 then (fX4_check_j73  Y) else (clv (fX4_serveOne Y v3) (fun u => u) fun Y101 => if wr (Y101.1 9) ≤ wr v3 then (fX4_check_j65 v3 Y101) else (bd v3 300 (if wr (Y101.2 8 (Int.toNat v3)) = wr (Y101.1 28) then (nm (v3 + 1) fun x102 => (fX4_check_l31 n) x102 Y101) else (fX4_check_j65 v3 Y101))))
def fX4_check_j20 (Y : St) : Option (Int × (St)) := some ((-2), Y)
def fX4_check (Y : St) (a0 a1 : Int) : Option (Int × (St)) := clp (fX4_in a0 0 8) fun r1 => if wr r1 = 0 then (fX4_check_j20  Y) else (clp (fX4_in a1 1 8) fun r2 => if wr r2 = 0 then (fX4_check_j20  Y) else (clv (fX4_begin Y a0 a1) (fun u => u) fun Y3 => nm 0 fun x4 => fX4_check_l31 FU x4 Y3))
end
