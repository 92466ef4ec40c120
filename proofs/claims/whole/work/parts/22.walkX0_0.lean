set_option maxRecDepth 100000 in
theorem wX0_numberThings_68 {X : Cx} {D : va_G} {y : ClassId × ClassId × ClassId} {q qr : Nat → Nat} (hX : OKX X cX0_numberThings RX0 (rmk 1) none D y) {k_15 : Int → Int → (St × St) → Option (St × St)} (hk_15 : ∀ (v1 v2 : Int) (Y : St × St), GF X cX0_numberThings D (0, 0) (QV X D y (wT y q qr)) (k_15 v1 v2 Y) 15 [some (.ref (q 0)), some (.int (iz v1)), some (.int (iz v2))] [] (wT y q qr Y)) (v1 v2 : Int) (Y : St × St) : GF X cX0_numberThings D (0, 0) (QV X D y (wT y q qr)) (fX0_numberThings_j68 k_15 v1 v2 Y) 68 [some (.ref (q 0)), some (.int (iz v1)), some (.int (iz v2))] [] (wT y q qr Y) := by
  unfold fX0_numberThings_j68
  refine g_iinc (lv' := fun x101 => [some (.ref (q 0)), some (.int (iz v1)), some (.int (iz x101))]) hX dX0_numberThings_68 (rfl : 68 + 3 = 71) rfl (fun _ => rfl) (fun x101 => ?_)
  refine g_goto (pc' := 15) hX dX0_numberThings_71 (by decide) ?_
  exact hk_15 v1 x101 Y
set_option maxRecDepth 100000 in
theorem wX0_numberThings_15 {X : Cx} {D : va_G} {y : ClassId × ClassId × ClassId} {q qr : Nat → Nat} (hX : OKX X cX0_numberThings RX0 (rmk 1) none D y) : ∀ (n : Nat) (v1 v2 : Int) (Y : St × St), GF X cX0_numberThings D (0, 0) (QV X D y (wT y q qr)) (fX0_numberThings_l15 n v1 v2 Y) 15 [some (.ref (q 0)), some (.int (iz v1)), some (.int (iz v2))] [] (wT y q qr Y) := by
  intro n
  induction n with
  | zero => intro v1 v2 Y; exact g_none
  | succ n hk_15 =>
    intro v1 v2 Y
    unfold fX0_numberThings_l15
    refine g_iload_n hX dX0_numberThings_15 (rfl : 15 + 1 = 16) rfl ?_
    refine g_bipush hX dX0_numberThings_16 (by decide) (rfl : 16 + 2 = 18) ?_
    refine g_icmp_ge (tgt := 74) hX dX0_numberThings_18 (by decide) (rfl : 18 + 3 = 21) ?_ ?_
    · exact g_vret hX dX0_numberThings_74
    · refine g_iload_n hX dX0_numberThings_21 (rfl : 21 + 1 = 22) rfl ?_
      refine g_iconst hX dX0_numberThings_22 (rfl : 22 + 1 = 23) ?_
      refine g_iload_n hX dX0_numberThings_23 (rfl : 23 + 1 = 24) rfl ?_
      refine g_ishl hX dX0_numberThings_24 (rfl : 24 + 1 = 25) ?_
      refine g_iand hX dX0_numberThings_25 (rfl : 25 + 1 = 26) ?_
      refine g_if_eq (tgt := 68) hX dX0_numberThings_26 (by decide) (rfl : 26 + 3 = 29) ?_ ?_
      · exact wX0_numberThings_68 hX hk_15 v1 v2 Y
      · refine g_aload_n hX dX0_numberThings_29 (rfl : 29 + 1 = 30) rfl ?_
        refine ge_T_X0_86_T hX dX0_numberThings_30 (rfl : 30 + 3 = 33) ?_
        refine g_bipush hX dX0_numberThings_33 (by decide) (rfl : 33 + 2 = 35) ?_
        refine g_icmp_ge (tgt := 68) hX dX0_numberThings_35 (by decide) (rfl : 35 + 3 = 38) ?_ ?_
        · exact wX0_numberThings_68 hX hk_15 v1 v2 Y
        · refine g_aload_n hX dX0_numberThings_38 (rfl : 38 + 1 = 39) rfl ?_
          refine ge_T_X0_9_T hX dX0_numberThings_39 (rfl : 39 + 3 = 42) ?_
          refine g_iload_n hX dX0_numberThings_42 (rfl : 42 + 1 = 43) rfl ?_
          refine g_aload_n hX dX0_numberThings_43 (rfl : 43 + 1 = 44) rfl ?_
          refine ge_T_X0_86_T hX dX0_numberThings_44 (rfl : 44 + 3 = 47) ?_
          refine as_T_T_1 hX dX0_numberThings_47 (rfl : 47 + 1 = 48) (fun Y102 => ?_)
          refine g_aload_n hX dX0_numberThings_48 (rfl : 48 + 1 = 49) rfl ?_
          refine ge_T_X0_15_T hX dX0_numberThings_49 (rfl : 49 + 3 = 52) ?_
          refine g_aload_n hX dX0_numberThings_52 (rfl : 52 + 1 = 53) rfl ?_
          refine ge_T_X0_86_T hX dX0_numberThings_53 (rfl : 53 + 3 = 56) ?_
          refine g_iload_n hX dX0_numberThings_56 (rfl : 56 + 1 = 57) rfl ?_
          refine as_T_T_2 hX dX0_numberThings_57 (rfl : 57 + 1 = 58) (fun Y103 => ?_)
          refine g_aload_n hX dX0_numberThings_58 (rfl : 58 + 1 = 59) rfl ?_
          refine g_dup hX dX0_numberThings_59 rfl (rfl : 59 + 1 = 60) ?_
          refine ge_T_X0_86_T hX dX0_numberThings_60 (rfl : 60 + 3 = 63) ?_
          refine g_iconst hX dX0_numberThings_63 (rfl : 63 + 1 = 64) ?_
          refine g_iadd hX dX0_numberThings_64 (rfl : 64 + 1 = 65) ?_
          refine pu_T_X0_86_T hX dX0_numberThings_65 (rfl : 65 + 3 = 68) (fun Y104 => ?_)
          exact wX0_numberThings_68 hX hk_15 v1 v2 Y104
set_option maxRecDepth 100000 in
theorem kX0_numberThings (l : Launch) (D : va_G) (y : ClassId × ClassId × ClassId) (q qr : Nat → Nat) (Y : St × St) : CtV l D y yX0_numberThings cX0_numberThings 3 (rmk 1) [.ref (q 0)] (wT y q qr) Y (fX0_numberThings Y) := by
  refine ctV_of (own := RX0) rfl (by decide) (cat1 rfl) rfl (fun X hl hX => ?_)
  subst hl
  show GF X cX0_numberThings D (0, 0) (QV X D y (wT y q qr)) (fX0_numberThings Y) 0 [some (.ref (q 0)), none, none] [] (wT y q qr Y)
  unfold fX0_numberThings
  refine g_aload_n hX dX0_numberThings_0 (rfl : 0 + 1 = 1) rfl ?_
  refine ge_T_X0_34_T hX dX0_numberThings_1 (rfl : 1 + 3 = 4) ?_
  refine ci_TR hX (kX1_bits _ _ _ (qr) _) mw_X0_82 (by decide) rfl rfl (Nat.le_of_ble_eq_true rfl) dX0_numberThings_4 (rfl : 4 + 3 = 7) (fun r2 Y1 => ?_)
  refine g_istore_n (lv' := fun x3 => [some (.ref (q 0)), some (.int (iz x3)), none]) hX dX0_numberThings_7 (rfl : 7 + 1 = 8) rfl (fun _ => rfl) (fun x3 => ?_)
  refine g_aload_n hX dX0_numberThings_8 (rfl : 8 + 1 = 9) rfl ?_
  refine g_iconst hX dX0_numberThings_9 (rfl : 9 + 1 = 10) ?_
  refine pu_T_X0_86_T hX dX0_numberThings_10 (rfl : 10 + 3 = 13) (fun Y4 => ?_)
  refine g_iconst hX dX0_numberThings_13 (rfl : 13 + 1 = 14) ?_
  refine g_istore_n (lv' := fun x5 => [some (.ref (q 0)), some (.int (iz x3)), some (.int (iz x5))]) hX dX0_numberThings_14 (rfl : 14 + 1 = 15) rfl (fun _ => rfl) (fun x5 => ?_)
  exact wX0_numberThings_15 hX FU x3 x5 Y4
set_option maxRecDepth 100000 in
theorem wX0_listFullMasks_75 {X : Cx} {D : va_G} {y : ClassId × ClassId × ClassId} {q qr : Nat → Nat} (hX : OKX X cX0_listFullMasks RX0 (rmk 1) none D y) {k_7 : Int → (St × St) → Option (St × St)} (hk_7 : ∀ (v1 : Int) (Y : St × St), GF X cX0_listFullMasks D (0, 0) (QV X D y (wT y q qr)) (k_7 v1 Y) 7 [some (.ref (q 0)), some (.int (iz v1))] [] (wT y q qr Y)) (v1 : Int) (Y : St × St) : GF X cX0_listFullMasks D (0, 0) (QV X D y (wT y q qr)) (fX0_listFullMasks_j75 k_7 v1 Y) 75 [some (.ref (q 0)), some (.int (iz v1))] [] (wT y q qr Y) := by
  unfold fX0_listFullMasks_j75
  refine g_iinc (lv' := fun x101 => [some (.ref (q 0)), some (.int (iz x101))]) hX dX0_listFullMasks_75 (rfl : 75 + 3 = 78) rfl (fun _ => rfl) (fun x101 => ?_)
  refine g_goto (pc' := 7) hX dX0_listFullMasks_78 (by decide) ?_
  exact hk_7 x101 Y
set_option maxRecDepth 100000 in
theorem wX0_listFullMasks_7 {X : Cx} {D : va_G} {y : ClassId × ClassId × ClassId} {q qr : Nat → Nat} (hX : OKX X cX0_listFullMasks RX0 (rmk 1) none D y) : ∀ (n : Nat) (v1 : Int) (Y : St × St), GF X cX0_listFullMasks D (0, 0) (QV X D y (wT y q qr)) (fX0_listFullMasks_l7 n v1 Y) 7 [some (.ref (q 0)), some (.int (iz v1))] [] (wT y q qr Y) := by
  intro n
  induction n with
  | zero => intro v1 Y; exact g_none
  | succ n hk_7 =>
    intro v1 Y
    unfold fX0_listFullMasks_l7
    refine g_iload_n hX dX0_listFullMasks_7 (rfl : 7 + 1 = 8) rfl ?_
    refine g_iconst hX dX0_listFullMasks_8 (rfl : 8 + 1 = 9) ?_
    refine g_aload_n hX dX0_listFullMasks_9 (rfl : 9 + 1 = 10) rfl ?_
    refine ge_T_X0_86_T hX dX0_listFullMasks_10 (rfl : 10 + 3 = 13) ?_
    refine g_ishl hX dX0_listFullMasks_13 (rfl : 13 + 1 = 14) ?_
    refine g_icmp_ge (tgt := 81) hX dX0_listFullMasks_14 (by decide) (rfl : 14 + 3 = 17) ?_ ?_
    · exact g_vret hX dX0_listFullMasks_81
    · refine g_aload_n hX dX0_listFullMasks_17 (rfl : 17 + 1 = 18) rfl ?_
      refine ge_T_X0_24_T hX dX0_listFullMasks_18 (rfl : 18 + 3 = 21) ?_
      refine g_iload_n hX dX0_listFullMasks_21 (rfl : 21 + 1 = 22) rfl ?_
      refine g_iconst hX dX0_listFullMasks_22 (rfl : 22 + 1 = 23) ?_
      refine as_T_T_5 hX dX0_listFullMasks_23 (rfl : 23 + 1 = 24) (fun Y102 => ?_)
      refine g_iload_n hX dX0_listFullMasks_24 (rfl : 24 + 1 = 25) rfl ?_
      refine g_callp hX (kJ6_bitCount_0f7a4 _ _ _ _) mw_X0_62 (by decide) rfl rfl (Nat.le_of_ble_eq_true rfl) dX0_listFullMasks_25 (rfl : 25 + 3 = 28) (fun r103 => ?_)
      refine g_aload_n hX dX0_listFullMasks_28 (rfl : 28 + 1 = 29) rfl ?_
      refine ge_T_X0_38_T hX dX0_listFullMasks_29 (rfl : 29 + 3 = 32) ?_
      refine g_icmp_ne (tgt := 75) hX dX0_listFullMasks_32 (by decide) (rfl : 32 + 3 = 35) ?_ ?_
      · exact wX0_listFullMasks_75 hX hk_7 v1 Y102
      · refine g_aload_n hX dX0_listFullMasks_35 (rfl : 35 + 1 = 36) rfl ?_
        refine ge_T_X0_89_T hX dX0_listFullMasks_36 (rfl : 36 + 3 = 39) ?_
        refine g_sipush hX dX0_listFullMasks_39 (by decide) (rfl : 39 + 3 = 42) ?_
        refine g_icmp_ge (tgt := 75) hX dX0_listFullMasks_42 (by decide) (rfl : 42 + 3 = 45) ?_ ?_
        · exact wX0_listFullMasks_75 hX hk_7 v1 Y102
        · refine g_aload_n hX dX0_listFullMasks_45 (rfl : 45 + 1 = 46) rfl ?_
          refine ge_T_X0_18_T hX dX0_listFullMasks_46 (rfl : 46 + 3 = 49) ?_
          refine g_aload_n hX dX0_listFullMasks_49 (rfl : 49 + 1 = 50) rfl ?_
          refine ge_T_X0_89_T hX dX0_listFullMasks_50 (rfl : 50 + 3 = 53) ?_
          refine g_iload_n hX dX0_listFullMasks_53 (rfl : 53 + 1 = 54) rfl ?_
          refine as_T_T_3 hX dX0_listFullMasks_54 (rfl : 54 + 1 = 55) (fun Y104 => ?_)
          refine g_aload_n hX dX0_listFullMasks_55 (rfl : 55 + 1 = 56) rfl ?_
          refine ge_T_X0_21_T hX dX0_listFullMasks_56 (rfl : 56 + 3 = 59) ?_
          refine g_iload_n hX dX0_listFullMasks_59 (rfl : 59 + 1 = 60) rfl ?_
          refine g_aload_n hX dX0_listFullMasks_60 (rfl : 60 + 1 = 61) rfl ?_
          refine ge_T_X0_89_T hX dX0_listFullMasks_61 (rfl : 61 + 3 = 64) ?_
          refine as_T_T_4 hX dX0_listFullMasks_64 (rfl : 64 + 1 = 65) (fun Y105 => ?_)
          refine g_aload_n hX dX0_listFullMasks_65 (rfl : 65 + 1 = 66) rfl ?_
          refine g_dup hX dX0_listFullMasks_66 rfl (rfl : 66 + 1 = 67) ?_
          refine ge_T_X0_89_T hX dX0_listFullMasks_67 (rfl : 67 + 3 = 70) ?_
          refine g_iconst hX dX0_listFullMasks_70 (rfl : 70 + 1 = 71) ?_
          refine g_iadd hX dX0_listFullMasks_71 (rfl : 71 + 1 = 72) ?_
          refine pu_T_X0_89_T hX dX0_listFullMasks_72 (rfl : 72 + 3 = 75) (fun Y106 => ?_)
          exact wX0_listFullMasks_75 hX hk_7 v1 Y106
set_option maxRecDepth 100000 in
theorem kX0_listFullMasks (l : Launch) (D : va_G) (y : ClassId × ClassId × ClassId) (q qr : Nat → Nat) (Y : St × St) : CtV l D y yX0_listFullMasks cX0_listFullMasks 2 (rmk 1) [.ref (q 0)] (wT y q qr) Y (fX0_listFullMasks Y) := by
  refine ctV_of (own := RX0) rfl (by decide) (cat1 rfl) rfl (fun X hl hX => ?_)
  subst hl
  show GF X cX0_listFullMasks D (0, 0) (QV X D y (wT y q qr)) (fX0_listFullMasks Y) 0 [some (.ref (q 0)), none] [] (wT y q qr Y)
  unfold fX0_listFullMasks
  refine g_aload_n hX dX0_listFullMasks_0 (rfl : 0 + 1 = 1) rfl ?_
  refine g_iconst hX dX0_listFullMasks_1 (rfl : 1 + 1 = 2) ?_
  refine pu_T_X0_89_T hX dX0_listFullMasks_2 (rfl : 2 + 3 = 5) (fun Y1 => ?_)
  refine g_iconst hX dX0_listFullMasks_5 (rfl : 5 + 1 = 6) ?_
  refine g_istore_n (lv' := fun x2 => [some (.ref (q 0)), some (.int (iz x2))]) hX dX0_listFullMasks_6 (rfl : 6 + 1 = 7) rfl (fun _ => rfl) (fun x2 => ?_)
  exact wX0_listFullMasks_7 hX FU x2 Y1
set_option maxRecDepth 100000 in
theorem wX0_bestChoice_72 {X : Cx} {D : va_G} {y : ClassId × ClassId × ClassId} {q qr : Nat → Nat} (hX : OKX X cX0_bestChoice RX0 (rmk 0) (some .int) D y) (v3 : Int) (Y : St × St) : GF X cX0_bestChoice D (0, 0) (QI X D y (wT y q qr)) (fX0_bestChoice_j72 v3 Y) 72 [some (.ref (q 0)), none, none, some (.int (iz v3)), none, none, none, none] [] (wT y q qr Y) := by
  unfold fX0_bestChoice_j72
  refine g_iload_n hX dX0_bestChoice_72 (rfl : 72 + 1 = 73) rfl ?_
  exact g_iret hX dX0_bestChoice_73
set_option maxRecDepth 100000 in
theorem wX0_bestChoice_66 {X : Cx} {D : va_G} {y : ClassId × ClassId × ClassId} {q qr : Nat → Nat} (hX : OKX X cX0_bestChoice RX0 (rmk 0) (some .int) D y) {k_11 : Int → Int → Int → Int → Int → Int → (St × St) → Option (Int × (St × St))} (hk_11 : ∀ (v1 v2 v3 v4 v5 v6 : Int) (Y : St × St), GF X cX0_bestChoice D (0, 0) (QI X D y (wT y q qr)) (k_11 v1 v2 v3 v4 v5 v6 Y) 11 [some (.ref (q 0)), some (.int (iz v1)), some (.int (iz v2)), some (.int (iz v3)), some (.int (iz v4)), some (.int (iz v5)), some (.int (iz v6)), none] [] (wT y q qr Y)) (v1 v2 v3 v4 v5 v6 : Int) (Y : St × St) : GF X cX0_bestChoice D (0, 0) (QI X D y (wT y q qr)) (fX0_bestChoice_j66 k_11 v1 v2 v3 v4 v5 v6 Y) 66 [some (.ref (q 0)), some (.int (iz v1)), some (.int (iz v2)), some (.int (iz v3)), some (.int (iz v4)), some (.int (iz v5)), some (.int (iz v6)), none] [] (wT y q qr Y) := by
  unfold fX0_bestChoice_j66
  refine g_iinc (lv' := fun x101 => [some (.ref (q 0)), some (.int (iz v1)), some (.int (iz v2)), some (.int (iz v3)), some (.int (iz v4)), some (.int (iz v5)), some (.int (iz x101)), none]) hX dX0_bestChoice_66 (rfl : 66 + 3 = 69) rfl (fun _ => rfl) (fun x101 => ?_)
  refine g_goto (pc' := 11) hX dX0_bestChoice_69 (by decide) ?_
  exact hk_11 v1 v2 v3 v4 v5 x101 Y
set_option maxRecDepth 100000 in
theorem wX0_bestChoice_56 {X : Cx} {D : va_G} {y : ClassId × ClassId × ClassId} {q qr : Nat → Nat} (hX : OKX X cX0_bestChoice RX0 (rmk 0) (some .int) D y) {k_11 : Int → Int → Int → Int → Int → Int → (St × St) → Option (Int × (St × St))} (hk_11 : ∀ (v1 v2 v3 v4 v5 v6 : Int) (Y : St × St), GF X cX0_bestChoice D (0, 0) (QI X D y (wT y q qr)) (k_11 v1 v2 v3 v4 v5 v6 Y) 11 [some (.ref (q 0)), some (.int (iz v1)), some (.int (iz v2)), some (.int (iz v3)), some (.int (iz v4)), some (.int (iz v5)), some (.int (iz v6)), none] [] (wT y q qr Y)) (v1 v2 v6 v7 : Int) (Y : St × St) : GF X cX0_bestChoice D (0, 0) (QI X D y (wT y q qr)) (fX0_bestChoice_j56 k_11 v1 v2 v6 v7 Y) 56 [some (.ref (q 0)), some (.int (iz v1)), some (.int (iz v2)), none, none, none, some (.int (iz v6)), some (.int (iz v7))] [] (wT y q qr Y) := by
  unfold fX0_bestChoice_j56
  refine g_iload hX dX0_bestChoice_56 (rfl : 56 + 2 = 58) rfl ?_
  refine g_istore_n (lv' := fun x102 => [some (.ref (q 0)), some (.int (iz v1)), some (.int (iz v2)), some (.int (iz x102)), none, none, some (.int (iz v6)), some (.int (iz v7))]) hX dX0_bestChoice_58 (rfl : 58 + 1 = 59) rfl (fun _ => rfl) (fun x102 => ?_)
  refine g_iload hX dX0_bestChoice_59 (rfl : 59 + 2 = 61) rfl ?_
  refine g_istore (lv' := fun x103 => [some (.ref (q 0)), some (.int (iz v1)), some (.int (iz v2)), some (.int (iz x102)), some (.int (iz x103)), none, some (.int (iz v6)), some (.int (iz v7))]) hX dX0_bestChoice_61 (rfl : 61 + 2 = 63) rfl (fun _ => rfl) (fun x103 => ?_)
  refine g_iconst hX dX0_bestChoice_63 (rfl : 63 + 1 = 64) ?_
  refine g_istore (lv' := fun x104 => [some (.ref (q 0)), some (.int (iz v1)), some (.int (iz v2)), some (.int (iz x102)), some (.int (iz x103)), some (.int (iz x104)), some (.int (iz v6)), some (.int (iz v7))]) hX dX0_bestChoice_64 (rfl : 64 + 2 = 66) rfl (fun _ => rfl) (fun x104 => ?_)
  refine g_drop (lv' := [some (.ref (q 0)), some (.int (iz v1)), some (.int (iz v2)), some (.int (iz x102)), some (.int (iz x103)), some (.int (iz x104)), some (.int (iz v6)), none]) 7 rfl ?_
  exact wX0_bestChoice_66 hX hk_11 v1 v2 x102 x103 x104 v6 Y
set_option maxRecDepth 100000 in
theorem wX0_bestChoice_11 {X : Cx} {D : va_G} {y : ClassId × ClassId × ClassId} {q qr : Nat → Nat} (hX : OKX X cX0_bestChoice RX0 (rmk 0) (some .int) D y) : ∀ (n : Nat) (v1 v2 v3 v4 v5 v6 : Int) (Y : St × St), GF X cX0_bestChoice D (0, 0) (QI X D y (wT y q qr)) (fX0_bestChoice_l11 n v1 v2 v3 v4 v5 v6 Y) 11 [some (.ref (q 0)), some (.int (iz v1)), some (.int (iz v2)), some (.int (iz v3)), some (.int (iz v4)), some (.int (iz v5)), some (.int (iz v6)), none] [] (wT y q qr Y) := by
  intro n
  induction n with
  | zero => intro v1 v2 v3 v4 v5 v6 Y; exact g_none
  | succ n hk_11 =>
    intro v1 v2 v3 v4 v5 v6 Y
    unfold fX0_bestChoice_l11
    refine g_iload hX dX0_bestChoice_11 (rfl : 11 + 2 = 13) rfl ?_
    refine g_aload_n hX dX0_bestChoice_13 (rfl : 13 + 1 = 14) rfl ?_
    refine ge_T_X0_86_T hX dX0_bestChoice_14 (rfl : 14 + 3 = 17) ?_
    refine g_icmp_ge (tgt := 72) hX dX0_bestChoice_17 (by decide) (rfl : 17 + 3 = 20) ?_ ?_
    · refine g_drop (lv' := [some (.ref (q 0)), none, some (.int (iz v2)), some (.int (iz v3)), some (.int (iz v4)), some (.int (iz v5)), some (.int (iz v6)), none]) 1 rfl ?_
      refine g_drop (lv' := [some (.ref (q 0)), none, none, some (.int (iz v3)), some (.int (iz v4)), some (.int (iz v5)), some (.int (iz v6)), none]) 2 rfl ?_
      refine g_drop (lv' := [some (.ref (q 0)), none, none, some (.int (iz v3)), none, some (.int (iz v5)), some (.int (iz v6)), none]) 4 rfl ?_
      refine g_drop (lv' := [some (.ref (q 0)), none, none, some (.int (iz v3)), none, none, some (.int (iz v6)), none]) 5 rfl ?_
      refine g_drop (lv' := [some (.ref (q 0)), none, none, some (.int (iz v3)), none, none, none, none]) 6 rfl ?_
      exact wX0_bestChoice_72 hX v3 Y
    · refine g_iload_n hX dX0_bestChoice_20 (rfl : 20 + 1 = 21) rfl ?_
      refine g_iconst hX dX0_bestChoice_21 (rfl : 21 + 1 = 22) ?_
      refine g_iload hX dX0_bestChoice_22 (rfl : 22 + 2 = 24) rfl ?_
      refine g_ishl hX dX0_bestChoice_24 (rfl : 24 + 1 = 25) ?_
      refine g_iand hX dX0_bestChoice_25 (rfl : 25 + 1 = 26) ?_
      refine g_if_eq (tgt := 66) hX dX0_bestChoice_26 (by decide) (rfl : 26 + 3 = 29) ?_ ?_
      · exact wX0_bestChoice_66 hX hk_11 v1 v2 v3 v4 v5 v6 Y
      · refine g_aload_n hX dX0_bestChoice_29 (rfl : 29 + 1 = 30) rfl ?_
        refine ge_T_X0_24_T hX dX0_bestChoice_30 (rfl : 30 + 3 = 33) ?_
        refine g_iload_n hX dX0_bestChoice_33 (rfl : 33 + 1 = 34) rfl ?_
        refine g_iconst hX dX0_bestChoice_34 (rfl : 34 + 1 = 35) ?_
        refine g_iload hX dX0_bestChoice_35 (rfl : 35 + 2 = 37) rfl ?_
        refine g_ishl hX dX0_bestChoice_37 (rfl : 37 + 1 = 38) ?_
        refine g_ixor hX dX0_bestChoice_38 (rfl : 38 + 1 = 39) ?_
        refine g_iload_n hX dX0_bestChoice_39 (rfl : 39 + 1 = 40) rfl ?_
        refine g_ior hX dX0_bestChoice_40 (rfl : 40 + 1 = 41) ?_
        refine al_T_T_5 hX dX0_bestChoice_41 (rfl : 41 + 1 = 42) ?_
        refine g_istore (lv' := fun x105 => [some (.ref (q 0)), some (.int (iz v1)), some (.int (iz v2)), some (.int (iz v3)), some (.int (iz v4)), some (.int (iz v5)), some (.int (iz v6)), some (.int (iz x105))]) hX dX0_bestChoice_42 (rfl : 42 + 2 = 44) rfl (fun _ => rfl) (fun x105 => ?_)
        refine g_iload hX dX0_bestChoice_44 (rfl : 44 + 2 = 46) rfl ?_
        refine g_if_eq (tgt := 56) hX dX0_bestChoice_46 (by decide) (rfl : 46 + 3 = 49) ?_ ?_
        · refine g_drop (lv' := [some (.ref (q 0)), some (.int (iz v1)), some (.int (iz v2)), none, some (.int (iz v4)), some (.int (iz v5)), some (.int (iz v6)), some (.int (iz x105))]) 3 rfl ?_
          refine g_drop (lv' := [some (.ref (q 0)), some (.int (iz v1)), some (.int (iz v2)), none, none, some (.int (iz v5)), some (.int (iz v6)), some (.int (iz x105))]) 4 rfl ?_
          refine g_drop (lv' := [some (.ref (q 0)), some (.int (iz v1)), some (.int (iz v2)), none, none, none, some (.int (iz v6)), some (.int (iz x105))]) 5 rfl ?_
          exact wX0_bestChoice_56 hX hk_11 v1 v2 v6 x105 Y
        · refine g_iload hX dX0_bestChoice_49 (rfl : 49 + 2 = 51) rfl ?_
          refine g_iload hX dX0_bestChoice_51 (rfl : 51 + 2 = 53) rfl ?_
          refine g_icmp_ge (tgt := 66) hX dX0_bestChoice_53 (by decide) (rfl : 53 + 3 = 56) ?_ ?_
          · refine g_drop (lv' := [some (.ref (q 0)), some (.int (iz v1)), some (.int (iz v2)), some (.int (iz v3)), some (.int (iz v4)), some (.int (iz v5)), some (.int (iz v6)), none]) 7 rfl ?_
            exact wX0_bestChoice_66 hX hk_11 v1 v2 v3 v4 v5 v6 Y
          · refine g_drop (lv' := [some (.ref (q 0)), some (.int (iz v1)), some (.int (iz v2)), none, some (.int (iz v4)), some (.int (iz v5)), some (.int (iz v6)), some (.int (iz x105))]) 3 rfl ?_
            refine g_drop (lv' := [some (.ref (q 0)), some (.int (iz v1)), some (.int (iz v2)), none, none, some (.int (iz v5)), some (.int (iz v6)), some (.int (iz x105))]) 4 rfl ?_
            refine g_drop (lv' := [some (.ref (q 0)), some (.int (iz v1)), some (.int (iz v2)), none, none, none, some (.int (iz v6)), some (.int (iz x105))]) 5 rfl ?_
            exact wX0_bestChoice_56 hX hk_11 v1 v2 v6 x105 Y
set_option maxRecDepth 100000 in
theorem kX0_bestChoice (l : Launch) (D : va_G) (y : ClassId × ClassId × ClassId) (q qr : Nat → Nat) (Y : St × St) (a0 a1 : Int) : CtI l D y yX0_bestChoice cX0_bestChoice 8 (some .int) (rmk 0) [.ref (q 0), .int (iz a0), .int (iz a1)] (wT y q qr) Y (fX0_bestChoice Y a0 a1) := by
  refine ctI_of (own := RX0) rfl (by decide) (cat1 rfl) rfl (fun X hl hX => ?_)
  subst hl
  show GF X cX0_bestChoice D (0, 0) (QI X D y (wT y q qr)) (fX0_bestChoice Y a0 a1) 0 [some (.ref (q 0)), some (.int (iz a0)), some (.int (iz a1)), none, none, none, none, none] [] (wT y q qr Y)
  unfold fX0_bestChoice
  refine g_iconst hX dX0_bestChoice_0 (rfl : 0 + 1 = 1) ?_
  refine g_istore_n (lv' := fun x1 => [some (.ref (q 0)), some (.int (iz a0)), some (.int (iz a1)), some (.int (iz x1)), none, none, none, none]) hX dX0_bestChoice_1 (rfl : 1 + 1 = 2) rfl (fun _ => rfl) (fun x1 => ?_)
  refine g_iconst hX dX0_bestChoice_2 (rfl : 2 + 1 = 3) ?_
  refine g_istore (lv' := fun x2 => [some (.ref (q 0)), some (.int (iz a0)), some (.int (iz a1)), some (.int (iz x1)), some (.int (iz x2)), none, none, none]) hX dX0_bestChoice_3 (rfl : 3 + 2 = 5) rfl (fun _ => rfl) (fun x2 => ?_)
  refine g_iconst hX dX0_bestChoice_5 (rfl : 5 + 1 = 6) ?_
  refine g_istore (lv' := fun x3 => [some (.ref (q 0)), some (.int (iz a0)), some (.int (iz a1)), some (.int (iz x1)), some (.int (iz x2)), some (.int (iz x3)), none, none]) hX dX0_bestChoice_6 (rfl : 6 + 2 = 8) rfl (fun _ => rfl) (fun x3 => ?_)
  refine g_iconst hX dX0_bestChoice_8 (rfl : 8 + 1 = 9) ?_
  refine g_istore (lv' := fun x4 => [some (.ref (q 0)), some (.int (iz a0)), some (.int (iz a1)), some (.int (iz x1)), some (.int (iz x2)), some (.int (iz x3)), some (.int (iz x4)), none]) hX dX0_bestChoice_9 (rfl : 9 + 2 = 11) rfl (fun _ => rfl) (fun x4 => ?_)
  exact wX0_bestChoice_11 hX FU a0 a1 x1 x2 x3 x4 Y
set_option maxRecDepth 100000 in
theorem kX0_keepChoice (l : Launch) (D : va_G) (y : ClassId × ClassId × ClassId) (q qr : Nat → Nat) (Y : St × St) (a0 a1 a2 : Int) : CtV l D y yX0_keepChoice cX0_keepChoice 6 (rmk 0) [.ref (q 0), .int (iz a0), .int (iz a1), .int (iz a2)] (wT y q qr) Y (fX0_keepChoice Y a0 a1 a2) := by
  refine ctV_of (own := RX0) rfl (by decide) (cat1 rfl) rfl (fun X hl hX => ?_)
  subst hl
  show GF X cX0_keepChoice D (0, 0) (QV X D y (wT y q qr)) (fX0_keepChoice Y a0 a1 a2) 0 [some (.ref (q 0)), some (.int (iz a0)), some (.int (iz a1)), some (.int (iz a2)), none, none] [] (wT y q qr Y)
  unfold fX0_keepChoice
  refine g_iload_n hX dX0_keepChoice_0 (rfl : 0 + 1 = 1) rfl ?_
  refine g_bipush hX dX0_keepChoice_1 (by decide) (rfl : 1 + 2 = 3) ?_
  refine g_imul hX dX0_keepChoice_3 (rfl : 3 + 1 = 4) ?_
  refine g_iload_n hX dX0_keepChoice_4 (rfl : 4 + 1 = 5) rfl ?_
  refine g_iconst hX dX0_keepChoice_5 (rfl : 5 + 1 = 6) ?_
  refine g_ishr hX dX0_keepChoice_6 (rfl : 6 + 1 = 7) ?_
  refine g_iadd hX dX0_keepChoice_7 (rfl : 7 + 1 = 8) ?_
  refine g_istore (lv' := fun x1 => [some (.ref (q 0)), some (.int (iz a0)), some (.int (iz a1)), some (.int (iz a2)), some (.int (iz x1)), none]) hX dX0_keepChoice_8 (rfl : 8 + 2 = 10) rfl (fun _ => rfl) (fun x1 => ?_)
  refine g_iload_n hX dX0_keepChoice_10 (rfl : 10 + 1 = 11) rfl ?_
  refine g_bipush hX dX0_keepChoice_11 (by decide) (rfl : 11 + 2 = 13) ?_
  refine g_iand hX dX0_keepChoice_13 (rfl : 13 + 1 = 14) ?_
  refine g_iconst hX dX0_keepChoice_14 (rfl : 14 + 1 = 15) ?_
  refine g_imul hX dX0_keepChoice_15 (rfl : 15 + 1 = 16) ?_
  refine g_istore (lv' := fun x2 => [some (.ref (q 0)), some (.int (iz a0)), some (.int (iz a1)), some (.int (iz a2)), some (.int (iz x1)), some (.int (iz x2))]) hX dX0_keepChoice_16 (rfl : 16 + 2 = 18) rfl (fun _ => rfl) (fun x2 => ?_)
  refine g_aload_n hX dX0_keepChoice_18 (rfl : 18 + 1 = 19) rfl ?_
  refine ge_T_X0_27_T hX dX0_keepChoice_19 (rfl : 19 + 3 = 22) ?_
  refine g_iload hX dX0_keepChoice_22 (rfl : 22 + 2 = 24) rfl ?_
  refine g_aload_n hX dX0_keepChoice_24 (rfl : 24 + 1 = 25) rfl ?_
  refine ge_T_X0_27_T hX dX0_keepChoice_25 (rfl : 25 + 3 = 28) ?_
  refine g_iload hX dX0_keepChoice_28 (rfl : 28 + 2 = 30) rfl ?_
  refine al_T_T_6 hX dX0_keepChoice_30 (rfl : 30 + 1 = 31) ?_
  refine g_ldc2 hX mc_X0_103 dX0_keepChoice_31 (rfl : 31 + 3 = 34) ?_
  refine g_iload hX dX0_keepChoice_34 (rfl : 34 + 2 = 36) rfl ?_
  refine g_lshl hX dX0_keepChoice_36 (rfl : 36 + 1 = 37) ?_
  refine g_ldc2 hX mc_X0_105 dX0_keepChoice_37 (rfl : 37 + 3 = 40) ?_
  refine g_lxor hX dX0_keepChoice_40 (rfl : 40 + 1 = 41) ?_
  refine g_land hX dX0_keepChoice_41 (rfl : 41 + 1 = 42) ?_
  refine g_iload_n hX dX0_keepChoice_42 (rfl : 42 + 1 = 43) rfl ?_
  refine g_i2l hX dX0_keepChoice_43 (rfl : 43 + 1 = 44) ?_
  refine g_iload hX dX0_keepChoice_44 (rfl : 44 + 2 = 46) rfl ?_
  refine g_lshl hX dX0_keepChoice_46 (rfl : 46 + 1 = 47) ?_
  refine g_lor hX dX0_keepChoice_47 (rfl : 47 + 1 = 48) ?_
  refine as_T_T_6 hX dX0_keepChoice_48 (rfl : 48 + 1 = 49) (fun Y3 => ?_)
  exact g_vret hX dX0_keepChoice_49
set_option maxRecDepth 100000 in
theorem wX0_fillAsking_95 {X : Cx} {D : va_G} {y : ClassId × ClassId × ClassId} {q qr : Nat → Nat} (hX : OKX X cX0_fillAsking RX0 (rmk 1) none D y) {k_29 : Int → Int → Int → Int → (St × St) → Option (St × St)} (hk_29 : ∀ (v1 v2 v3 v4 : Int) (Y : St × St), GF X cX0_fillAsking D (0, 0) (QV X D y (wT y q qr)) (k_29 v1 v2 v3 v4 Y) 29 [some (.ref (q 0)), some (.int (iz v1)), some (.int (iz v2)), some (.int (iz v3)), some (.int (iz v4)), none, none] [] (wT y q qr Y)) (v1 v2 v3 v4 : Int) (Y : St × St) : GF X cX0_fillAsking D (0, 0) (QV X D y (wT y q qr)) (fX0_fillAsking_j95 k_29 v1 v2 v3 v4 Y) 95 [some (.ref (q 0)), some (.int (iz v1)), some (.int (iz v2)), some (.int (iz v3)), some (.int (iz v4)), none, none] [] (wT y q qr Y) := by
  unfold fX0_fillAsking_j95
  refine g_iinc (lv' := fun x101 => [some (.ref (q 0)), some (.int (iz v1)), some (.int (iz v2)), some (.int (iz v3)), some (.int (iz x101)), none, none]) hX dX0_fillAsking_95 (rfl : 95 + 3 = 98) rfl (fun _ => rfl) (fun x101 => ?_)
  refine g_goto (pc' := 29) hX dX0_fillAsking_98 (by decide) ?_
  exact hk_29 v1 v2 v3 x101 Y
set_option maxRecDepth 100000 in
theorem wX0_fillAsking_29 {X : Cx} {D : va_G} {y : ClassId × ClassId × ClassId} {q qr : Nat → Nat} (hX : OKX X cX0_fillAsking RX0 (rmk 1) none D y) : ∀ (n : Nat) (v1 v2 v3 v4 : Int) (Y : St × St), GF X cX0_fillAsking D (0, 0) (QV X D y (wT y q qr)) (fX0_fillAsking_l29 n v1 v2 v3 v4 Y) 29 [some (.ref (q 0)), some (.int (iz v1)), some (.int (iz v2)), some (.int (iz v3)), some (.int (iz v4)), none, none] [] (wT y q qr Y) := by
  intro n
  induction n with
  | zero => intro v1 v2 v3 v4 Y; exact g_none
  | succ n hk_29 =>
    intro v1 v2 v3 v4 Y
    unfold fX0_fillAsking_l29
    refine g_iload hX dX0_fillAsking_29 (rfl : 29 + 2 = 31) rfl ?_
    refine g_aload_n hX dX0_fillAsking_31 (rfl : 31 + 1 = 32) rfl ?_
    refine ge_T_X0_89_T hX dX0_fillAsking_32 (rfl : 32 + 3 = 35) ?_
    refine g_icmp_ge (tgt := 101) hX dX0_fillAsking_35 (by decide) (rfl : 35 + 3 = 38) ?_ ?_
    · exact g_vret hX dX0_fillAsking_101
    · refine g_aload_n hX dX0_fillAsking_38 (rfl : 38 + 1 = 39) rfl ?_
      refine ge_T_X0_18_T hX dX0_fillAsking_39 (rfl : 39 + 3 = 42) ?_
      refine g_iload hX dX0_fillAsking_42 (rfl : 42 + 2 = 44) rfl ?_
      refine al_T_T_3 hX dX0_fillAsking_44 (rfl : 44 + 1 = 45) ?_
      refine g_istore (lv' := fun x102 => [some (.ref (q 0)), some (.int (iz v1)), some (.int (iz v2)), some (.int (iz v3)), some (.int (iz v4)), some (.int (iz x102)), none]) hX dX0_fillAsking_45 (rfl : 45 + 2 = 47) rfl (fun _ => rfl) (fun x102 => ?_)
      refine g_iload hX dX0_fillAsking_47 (rfl : 47 + 2 = 49) rfl ?_
      refine g_iload_n hX dX0_fillAsking_49 (rfl : 49 + 1 = 50) rfl ?_
      refine g_iand hX dX0_fillAsking_50 (rfl : 50 + 1 = 51) ?_
      refine g_if_ne (tgt := 95) hX dX0_fillAsking_51 (by decide) (rfl : 51 + 3 = 54) ?_ ?_
      · refine g_drop (lv' := [some (.ref (q 0)), some (.int (iz v1)), some (.int (iz v2)), some (.int (iz v3)), some (.int (iz v4)), none, none]) 5 rfl ?_
        exact wX0_fillAsking_95 hX hk_29 v1 v2 v3 v4 Y
      · refine g_aload_n hX dX0_fillAsking_54 (rfl : 54 + 1 = 55) rfl ?_
        refine g_iload hX dX0_fillAsking_55 (rfl : 55 + 2 = 57) rfl ?_
        refine g_iload_n hX dX0_fillAsking_57 (rfl : 57 + 1 = 58) rfl ?_
        refine ci_TT hX (kX0_bestChoice _ _ _ (q) (qr) _ _ _) mw_X0_92 (by decide) rfl rfl (Nat.le_of_ble_eq_true rfl) dX0_fillAsking_58 (rfl : 58 + 3 = 61) (fun r104 Y103 => ?_)
        refine g_istore (lv' := fun x105 => [some (.ref (q 0)), some (.int (iz v1)), some (.int (iz v2)), some (.int (iz v3)), some (.int (iz v4)), some (.int (iz x102)), some (.int (iz x105))]) hX dX0_fillAsking_61 (rfl : 61 + 2 = 63) rfl (fun _ => rfl) (fun x105 => ?_)
        refine g_aload_n hX dX0_fillAsking_63 (rfl : 63 + 1 = 64) rfl ?_
        refine ge_T_X0_24_T hX dX0_fillAsking_64 (rfl : 64 + 3 = 67) ?_
        refine g_iload hX dX0_fillAsking_67 (rfl : 67 + 2 = 69) rfl ?_
        refine g_iload_n hX dX0_fillAsking_69 (rfl : 69 + 1 = 70) rfl ?_
        refine g_aload_n hX dX0_fillAsking_70 (rfl : 70 + 1 = 71) rfl ?_
        refine ge_T_X0_24_T hX dX0_fillAsking_71 (rfl : 71 + 3 = 74) ?_
        refine g_iload hX dX0_fillAsking_74 (rfl : 74 + 2 = 76) rfl ?_
        refine g_iconst hX dX0_fillAsking_76 (rfl : 76 + 1 = 77) ?_
        refine g_iload hX dX0_fillAsking_77 (rfl : 77 + 2 = 79) rfl ?_
        refine g_ishl hX dX0_fillAsking_79 (rfl : 79 + 1 = 80) ?_
        refine g_ixor hX dX0_fillAsking_80 (rfl : 80 + 1 = 81) ?_
        refine g_iload_n hX dX0_fillAsking_81 (rfl : 81 + 1 = 82) rfl ?_
        refine g_ior hX dX0_fillAsking_82 (rfl : 82 + 1 = 83) ?_
        refine al_T_T_5 hX dX0_fillAsking_83 (rfl : 83 + 1 = 84) ?_
        refine g_iadd hX dX0_fillAsking_84 (rfl : 84 + 1 = 85) ?_
        refine as_T_T_5 hX dX0_fillAsking_85 (rfl : 85 + 1 = 86) (fun Y106 => ?_)
        refine g_aload_n hX dX0_fillAsking_86 (rfl : 86 + 1 = 87) rfl ?_
        refine g_iload_n hX dX0_fillAsking_87 (rfl : 87 + 1 = 88) rfl ?_
        refine g_iload hX dX0_fillAsking_88 (rfl : 88 + 2 = 90) rfl ?_
        refine g_iload hX dX0_fillAsking_90 (rfl : 90 + 2 = 92) rfl ?_
        refine cv_TT hX (kX0_keepChoice _ _ _ (q) (qr) _ _ _ _) mw_X0_96 (by decide) rfl rfl (Nat.le_of_ble_eq_true rfl) dX0_fillAsking_92 (rfl : 92 + 3 = 95) (fun Y107 => ?_)
        refine g_drop (lv' := [some (.ref (q 0)), some (.int (iz v1)), some (.int (iz v2)), some (.int (iz v3)), some (.int (iz v4)), none, some (.int (iz x105))]) 5 rfl ?_
        refine g_drop (lv' := [some (.ref (q 0)), some (.int (iz v1)), some (.int (iz v2)), some (.int (iz v3)), some (.int (iz v4)), none, none]) 6 rfl ?_
        exact wX0_fillAsking_95 hX hk_29 v1 v2 v3 v4 Y107
set_option maxRecDepth 100000 in
theorem kX0_fillAsking (l : Launch) (D : va_G) (y : ClassId × ClassId × ClassId) (q qr : Nat → Nat) (Y : St × St) (a0 : Int) : CtV l D y yX0_fillAsking cX0_fillAsking 7 (rmk 1) [.ref (q 0), .int (iz a0)] (wT y q qr) Y (fX0_fillAsking Y a0) := by
  refine ctV_of (own := RX0) rfl (by decide) (cat1 rfl) rfl (fun X hl hX => ?_)
  subst hl
  show GF X cX0_fillAsking D (0, 0) (QV X D y (wT y q qr)) (fX0_fillAsking Y a0) 0 [some (.ref (q 0)), some (.int (iz a0)), none, none, none, none, none] [] (wT y q qr Y)
  unfold fX0_fillAsking
  refine g_iconst hX dX0_fillAsking_0 (rfl : 0 + 1 = 1) ?_
  refine g_aload_n hX dX0_fillAsking_1 (rfl : 1 + 1 = 2) rfl ?_
  refine ge_T_X0_9_T hX dX0_fillAsking_2 (rfl : 2 + 3 = 5) ?_
  refine g_aload_n hX dX0_fillAsking_5 (rfl : 5 + 1 = 6) rfl ?_
  refine ge_T_X0_34_T hX dX0_fillAsking_6 (rfl : 6 + 3 = 9) ?_
  refine ge_T_X0_68_R hX dX0_fillAsking_9 (rfl : 9 + 3 = 12) ?_
  refine g_iload_n hX dX0_fillAsking_12 (rfl : 12 + 1 = 13) rfl ?_
  refine al_T_R_0 hX dX0_fillAsking_13 (rfl : 13 + 1 = 14) ?_
  refine al_T_T_1 hX dX0_fillAsking_14 (rfl : 14 + 1 = 15) ?_
  refine g_ishl hX dX0_fillAsking_15 (rfl : 15 + 1 = 16) ?_
  refine g_istore_n (lv' := fun x1 => [some (.ref (q 0)), some (.int (iz a0)), some (.int (iz x1)), none, none, none, none]) hX dX0_fillAsking_16 (rfl : 16 + 1 = 17) rfl (fun _ => rfl) (fun x1 => ?_)
  refine g_aload_n hX dX0_fillAsking_17 (rfl : 17 + 1 = 18) rfl ?_
  refine ge_T_X0_34_T hX dX0_fillAsking_18 (rfl : 18 + 3 = 21) ?_
  refine g_iload_n hX dX0_fillAsking_21 (rfl : 21 + 1 = 22) rfl ?_
  refine ci_TR hX (kX1_priceAt _ _ _ (qr) _ _) mw_X0_71 (by decide) rfl rfl (Nat.le_of_ble_eq_true rfl) dX0_fillAsking_22 (rfl : 22 + 3 = 25) (fun r3 Y2 => ?_)
  refine g_istore_n (lv' := fun x4 => [some (.ref (q 0)), some (.int (iz a0)), some (.int (iz x1)), some (.int (iz x4)), none, none, none]) hX dX0_fillAsking_25 (rfl : 25 + 1 = 26) rfl (fun _ => rfl) (fun x4 => ?_)
  refine g_iconst hX dX0_fillAsking_26 (rfl : 26 + 1 = 27) ?_
  refine g_istore (lv' := fun x5 => [some (.ref (q 0)), some (.int (iz a0)), some (.int (iz x1)), some (.int (iz x4)), some (.int (iz x5)), none, none]) hX dX0_fillAsking_27 (rfl : 27 + 2 = 29) rfl (fun _ => rfl) (fun x5 => ?_)
  exact wX0_fillAsking_29 hX FU a0 x1 x4 x5 Y2
set_option maxRecDepth 100000 in
theorem kX0_keptChoice (l : Launch) (D : va_G) (y : ClassId × ClassId × ClassId) (q qr : Nat → Nat) (Y : St × St) (a0 a1 : Int) : CtI l D y yX0_keptChoice cX0_keptChoice 4 (some .int) (rmk 0) [.ref (q 0), .int (iz a0), .int (iz a1)] (wT y q qr) Y (fX0_keptChoice Y a0 a1) := by
  refine ctI_of (own := RX0) rfl (by decide) (cat1 rfl) rfl (fun X hl hX => ?_)
  subst hl
  show GF X cX0_keptChoice D (0, 0) (QI X D y (wT y q qr)) (fX0_keptChoice Y a0 a1) 0 [some (.ref (q 0)), some (.int (iz a0)), some (.int (iz a1)), none] [] (wT y q qr Y)
  unfold fX0_keptChoice
  refine g_iload_n hX dX0_keptChoice_0 (rfl : 0 + 1 = 1) rfl ?_
  refine g_bipush hX dX0_keptChoice_1 (by decide) (rfl : 1 + 2 = 3) ?_
  refine g_imul hX dX0_keptChoice_3 (rfl : 3 + 1 = 4) ?_
  refine g_iload_n hX dX0_keptChoice_4 (rfl : 4 + 1 = 5) rfl ?_
  refine g_iconst hX dX0_keptChoice_5 (rfl : 5 + 1 = 6) ?_
  refine g_ishr hX dX0_keptChoice_6 (rfl : 6 + 1 = 7) ?_
  refine g_iadd hX dX0_keptChoice_7 (rfl : 7 + 1 = 8) ?_
  refine g_istore_n (lv' := fun x1 => [some (.ref (q 0)), some (.int (iz a0)), some (.int (iz a1)), some (.int (iz x1))]) hX dX0_keptChoice_8 (rfl : 8 + 1 = 9) rfl (fun _ => rfl) (fun x1 => ?_)
  refine g_aload_n hX dX0_keptChoice_9 (rfl : 9 + 1 = 10) rfl ?_
  refine ge_T_X0_27_T hX dX0_keptChoice_10 (rfl : 10 + 3 = 13) ?_
  refine g_iload_n hX dX0_keptChoice_13 (rfl : 13 + 1 = 14) rfl ?_
  refine al_T_T_6 hX dX0_keptChoice_14 (rfl : 14 + 1 = 15) ?_
  refine g_iload_n hX dX0_keptChoice_15 (rfl : 15 + 1 = 16) rfl ?_
  refine g_bipush hX dX0_keptChoice_16 (by decide) (rfl : 16 + 2 = 18) ?_
  refine g_iand hX dX0_keptChoice_18 (rfl : 18 + 1 = 19) ?_
  refine g_iconst hX dX0_keptChoice_19 (rfl : 19 + 1 = 20) ?_
  refine g_imul hX dX0_keptChoice_20 (rfl : 20 + 1 = 21) ?_
  refine g_lshr hX dX0_keptChoice_21 (rfl : 21 + 1 = 22) ?_
  refine g_l2i hX dX0_keptChoice_22 (rfl : 22 + 1 = 23) ?_
  refine g_bipush hX dX0_keptChoice_23 (by decide) (rfl : 23 + 2 = 25) ?_
  refine g_iand hX dX0_keptChoice_25 (rfl : 25 + 1 = 26) ?_
  exact g_iret hX dX0_keptChoice_26
set_option maxRecDepth 100000 in
theorem wX0_followChoices_81 {X : Cx} {D : va_G} {y : ClassId × ClassId × ClassId} {q qr : Nat → Nat} (hX : OKX X cX0_followChoices RX0 (rmk 1) none D y) {k_5 : Int → Int → (St × St) → Option (St × St)} (hk_5 : ∀ (v3 v4 : Int) (Y : St × St), GF X cX0_followChoices D (0, 0) (QV X D y (wT y q qr)) (k_5 v3 v4 Y) 5 [some (.ref (q 0)), none, none, some (.int (iz v3)), some (.int (iz v4)), none, none] [] (wT y q qr Y)) (v3 v4 : Int) (Y : St × St) : GF X cX0_followChoices D (0, 0) (QV X D y (wT y q qr)) (fX0_followChoices_j81 k_5 v3 v4 Y) 81 [some (.ref (q 0)), none, none, some (.int (iz v3)), some (.int (iz v4)), none, none] [] (wT y q qr Y) := by
  unfold fX0_followChoices_j81
  refine g_iinc (lv' := fun x101 => [some (.ref (q 0)), none, none, some (.int (iz v3)), some (.int (iz x101)), none, none]) hX dX0_followChoices_81 (rfl : 81 + 3 = 84) rfl (fun _ => rfl) (fun x101 => ?_)
  refine g_goto (pc' := 5) hX dX0_followChoices_84 (by decide) ?_
  exact hk_5 v3 x101 Y
set_option maxRecDepth 100000 in
theorem wX0_followChoices_5 {X : Cx} {D : va_G} {y : ClassId × ClassId × ClassId} {q qr : Nat → Nat} (hX : OKX X cX0_followChoices RX0 (rmk 1) none D y) : ∀ (n : Nat) (v3 v4 : Int) (Y : St × St), GF X cX0_followChoices D (0, 0) (QV X D y (wT y q qr)) (fX0_followChoices_l5 n v3 v4 Y) 5 [some (.ref (q 0)), none, none, some (.int (iz v3)), some (.int (iz v4)), none, none] [] (wT y q qr Y) := by
  intro n
  induction n with
  | zero => intro v3 v4 Y; exact g_none
  | succ n hk_5 =>
    intro v3 v4 Y
    unfold fX0_followChoices_l5
    refine g_iload hX dX0_followChoices_5 (rfl : 5 + 2 = 7) rfl ?_
    refine g_aload_n hX dX0_followChoices_7 (rfl : 7 + 1 = 8) rfl ?_
    refine ge_T_X0_34_T hX dX0_followChoices_8 (rfl : 8 + 3 = 11) ?_
    refine ge_T_X0_57_R hX dX0_followChoices_11 (rfl : 11 + 3 = 14) ?_
    refine g_icmp_ge (tgt := 87) hX dX0_followChoices_14 (by decide) (rfl : 14 + 3 = 17) ?_ ?_
    · exact g_vret hX dX0_followChoices_87
    · refine g_iconst hX dX0_followChoices_17 (rfl : 17 + 1 = 18) ?_
      refine g_aload_n hX dX0_followChoices_18 (rfl : 18 + 1 = 19) rfl ?_
      refine ge_T_X0_9_T hX dX0_followChoices_19 (rfl : 19 + 3 = 22) ?_
      refine g_aload_n hX dX0_followChoices_22 (rfl : 22 + 1 = 23) rfl ?_
      refine ge_T_X0_34_T hX dX0_followChoices_23 (rfl : 23 + 3 = 26) ?_
      refine ge_T_X0_68_R hX dX0_followChoices_26 (rfl : 26 + 3 = 29) ?_
      refine g_iload hX dX0_followChoices_29 (rfl : 29 + 2 = 31) rfl ?_
      refine al_T_R_0 hX dX0_followChoices_31 (rfl : 31 + 1 = 32) ?_
      refine al_T_T_1 hX dX0_followChoices_32 (rfl : 32 + 1 = 33) ?_
      refine g_ishl hX dX0_followChoices_33 (rfl : 33 + 1 = 34) ?_
      refine g_istore (lv' := fun x102 => [some (.ref (q 0)), none, none, some (.int (iz v3)), some (.int (iz v4)), some (.int (iz x102)), none]) hX dX0_followChoices_34 (rfl : 34 + 2 = 36) rfl (fun _ => rfl) (fun x102 => ?_)
      refine g_iload_n hX dX0_followChoices_36 (rfl : 36 + 1 = 37) rfl ?_
      refine g_iload hX dX0_followChoices_37 (rfl : 37 + 2 = 39) rfl ?_
      refine g_iand hX dX0_followChoices_39 (rfl : 39 + 1 = 40) ?_
      refine g_if_ne (tgt := 81) hX dX0_followChoices_40 (by decide) (rfl : 40 + 3 = 43) ?_ ?_
      · refine g_drop (lv' := [some (.ref (q 0)), none, none, some (.int (iz v3)), some (.int (iz v4)), none, none]) 5 rfl ?_
        exact wX0_followChoices_81 hX hk_5 v3 v4 Y
      · refine g_aload_n hX dX0_followChoices_43 (rfl : 43 + 1 = 44) rfl ?_
        refine g_iload hX dX0_followChoices_44 (rfl : 44 + 2 = 46) rfl ?_
        refine g_aload_n hX dX0_followChoices_46 (rfl : 46 + 1 = 47) rfl ?_
        refine ge_T_X0_21_T hX dX0_followChoices_47 (rfl : 47 + 3 = 50) ?_
        refine g_iload_n hX dX0_followChoices_50 (rfl : 50 + 1 = 51) rfl ?_
        refine al_T_T_4 hX dX0_followChoices_51 (rfl : 51 + 1 = 52) ?_
        refine ci_TT hX (kX0_keptChoice _ _ _ (q) (qr) _ _ _) mw_X0_100 (by decide) rfl rfl (Nat.le_of_ble_eq_true rfl) dX0_followChoices_52 (rfl : 52 + 3 = 55) (fun r104 Y103 => ?_)
        refine g_istore (lv' := fun x105 => [some (.ref (q 0)), none, none, some (.int (iz v3)), some (.int (iz v4)), some (.int (iz x102)), some (.int (iz x105))]) hX dX0_followChoices_55 (rfl : 55 + 2 = 57) rfl (fun _ => rfl) (fun x105 => ?_)
        refine g_aload_n hX dX0_followChoices_57 (rfl : 57 + 1 = 58) rfl ?_
        refine ge_T_X0_31_T hX dX0_followChoices_58 (rfl : 58 + 3 = 61) ?_
        refine g_iload hX dX0_followChoices_61 (rfl : 61 + 2 = 63) rfl ?_
        refine g_aload_n hX dX0_followChoices_63 (rfl : 63 + 1 = 64) rfl ?_
        refine ge_T_X0_15_T hX dX0_followChoices_64 (rfl : 64 + 3 = 67) ?_
        refine g_iload hX dX0_followChoices_67 (rfl : 67 + 2 = 69) rfl ?_
        refine al_T_T_2 hX dX0_followChoices_69 (rfl : 69 + 1 = 70) ?_
        refine as_T_T_7 hX dX0_followChoices_70 (rfl : 70 + 1 = 71) (fun Y106 => ?_)
        refine g_iload_n hX dX0_followChoices_71 (rfl : 71 + 1 = 72) rfl ?_
        refine g_iconst hX dX0_followChoices_72 (rfl : 72 + 1 = 73) ?_
        refine g_iload hX dX0_followChoices_73 (rfl : 73 + 2 = 75) rfl ?_
        refine g_ishl hX dX0_followChoices_75 (rfl : 75 + 1 = 76) ?_
        refine g_ixor hX dX0_followChoices_76 (rfl : 76 + 1 = 77) ?_
        refine g_iload hX dX0_followChoices_77 (rfl : 77 + 2 = 79) rfl ?_
        refine g_ior hX dX0_followChoices_79 (rfl : 79 + 1 = 80) ?_
        refine g_istore_n (lv' := fun x107 => [some (.ref (q 0)), none, none, some (.int (iz x107)), some (.int (iz v4)), some (.int (iz x102)), some (.int (iz x105))]) hX dX0_followChoices_80 (rfl : 80 + 1 = 81) rfl (fun _ => rfl) (fun x107 => ?_)
        refine g_drop (lv' := [some (.ref (q 0)), none, none, some (.int (iz x107)), some (.int (iz v4)), none, some (.int (iz x105))]) 5 rfl ?_
        refine g_drop (lv' := [some (.ref (q 0)), none, none, some (.int (iz x107)), some (.int (iz v4)), none, none]) 6 rfl ?_
        exact wX0_followChoices_81 hX hk_5 x107 v4 Y106
set_option maxRecDepth 100000 in
theorem kX0_followChoices (l : Launch) (D : va_G) (y : ClassId × ClassId × ClassId) (q qr : Nat → Nat) (Y : St × St) (a0 a1 : Int) : CtV l D y yX0_followChoices cX0_followChoices 7 (rmk 1) [.ref (q 0), .int (iz a0), .int (iz a1)] (wT y q qr) Y (fX0_followChoices Y a0 a1) := by
  refine ctV_of (own := RX0) rfl (by decide) (cat1 rfl) rfl (fun X hl hX => ?_)
  subst hl
  show GF X cX0_followChoices D (0, 0) (QV X D y (wT y q qr)) (fX0_followChoices Y a0 a1) 0 [some (.ref (q 0)), some (.int (iz a0)), some (.int (iz a1)), none, none, none, none] [] (wT y q qr Y)
  unfold fX0_followChoices
  refine g_iload_n hX dX0_followChoices_0 (rfl : 0 + 1 = 1) rfl ?_
  refine g_istore_n (lv' := fun x1 => [some (.ref (q 0)), some (.int (iz a0)), some (.int (iz a1)), some (.int (iz x1)), none, none, none]) hX dX0_followChoices_1 (rfl : 1 + 1 = 2) rfl (fun _ => rfl) (fun x1 => ?_)
  refine g_iload_n hX dX0_followChoices_2 (rfl : 2 + 1 = 3) rfl ?_
  refine g_istore (lv' := fun x2 => [some (.ref (q 0)), some (.int (iz a0)), some (.int (iz a1)), some (.int (iz x1)), some (.int (iz x2)), none, none]) hX dX0_followChoices_3 (rfl : 3 + 2 = 5) rfl (fun _ => rfl) (fun x2 => ?_)
  refine g_drop (lv' := [some (.ref (q 0)), none, some (.int (iz a1)), some (.int (iz x1)), some (.int (iz x2)), none, none]) 1 rfl ?_
  refine g_drop (lv' := [some (.ref (q 0)), none, none, some (.int (iz x1)), some (.int (iz x2)), none, none]) 2 rfl ?_
  exact wX0_followChoices_5 hX FU x1 x2 Y
set_option maxRecDepth 100000 in
theorem wX0_prepare_140 {X : Cx} {D : va_G} {y : ClassId × ClassId × ClassId} {q qr : Nat → Nat} (hX : OKX X cX0_prepare RX0 (rmk 2) none D y) (v2 v3 : Int) (Y : St × St) : GF X cX0_prepare D (0, 0) (QV X D y (wT y q qr)) (fX0_prepare_j140 v2 v3 Y) 140 [some (.ref (q 0)), none, some (.int (iz v2)), some (.int (iz v3)), none] [] (wT y q qr Y) := by
  unfold fX0_prepare_j140
  refine g_aload_n hX dX0_prepare_140 (rfl : 140 + 1 = 141) rfl ?_
  refine g_dup hX dX0_prepare_141 rfl (rfl : 141 + 1 = 142) ?_
  refine ge_T_X0_42_T hX dX0_prepare_142 (rfl : 142 + 3 = 145) ?_
  refine g_aload_n hX dX0_prepare_145 (rfl : 145 + 1 = 146) rfl ?_
  refine ge_T_X0_24_T hX dX0_prepare_146 (rfl : 146 + 3 = 149) ?_
  refine g_iload_n hX dX0_prepare_149 (rfl : 149 + 1 = 150) rfl ?_
  refine al_T_T_5 hX dX0_prepare_150 (rfl : 150 + 1 = 151) ?_
  refine g_iadd hX dX0_prepare_151 (rfl : 151 + 1 = 152) ?_
  refine pu_T_X0_42_T hX dX0_prepare_152 (rfl : 152 + 3 = 155) (fun Y101 => ?_)
  refine g_aload_n hX dX0_prepare_155 (rfl : 155 + 1 = 156) rfl ?_
  refine g_iload_n hX dX0_prepare_156 (rfl : 156 + 1 = 157) rfl ?_
  refine g_iload_n hX dX0_prepare_157 (rfl : 157 + 1 = 158) rfl ?_
  refine cv_TT hX (kX0_followChoices _ _ _ (q) (qr) _ _ _) mw_X0_78 (by decide) rfl rfl (Nat.le_of_ble_eq_true rfl) dX0_prepare_158 (rfl : 158 + 3 = 161) (fun Y102 => ?_)
  exact g_vret hX dX0_prepare_161
set_option maxRecDepth 100000 in
theorem wX0_prepare_122 {X : Cx} {D : va_G} {y : ClassId × ClassId × ClassId} {q qr : Nat → Nat} (hX : OKX X cX0_prepare RX0 (rmk 2) none D y) : ∀ (n : Nat) (v2 v3 v4 : Int) (Y : St × St), GF X cX0_prepare D (0, 0) (QV X D y (wT y q qr)) (fX0_prepare_l122 n v2 v3 v4 Y) 122 [some (.ref (q 0)), none, some (.int (iz v2)), some (.int (iz v3)), some (.int (iz v4))] [] (wT y q qr Y) := by
  intro n
  induction n with
  | zero => intro v2 v3 v4 Y; exact g_none
  | succ n hk_122 =>
    intro v2 v3 v4 Y
    unfold fX0_prepare_l122
    refine g_iload hX dX0_prepare_122 (rfl : 122 + 2 = 124) rfl ?_
    refine g_iload_n hX dX0_prepare_124 (rfl : 124 + 1 = 125) rfl ?_
    refine g_icmp_lt (tgt := 140) hX dX0_prepare_125 (by decide) (rfl : 125 + 3 = 128) ?_ ?_
    · refine g_drop (lv' := [some (.ref (q 0)), none, some (.int (iz v2)), some (.int (iz v3)), none]) 4 rfl ?_
      exact wX0_prepare_140 hX v2 v3 Y
    · refine g_aload_n hX dX0_prepare_128 (rfl : 128 + 1 = 129) rfl ?_
      refine g_iload hX dX0_prepare_129 (rfl : 129 + 2 = 131) rfl ?_
      refine cv_TT hX (kX0_fillAsking _ _ _ (q) (qr) _ _) mw_X0_74 (by decide) rfl rfl (Nat.le_of_ble_eq_true rfl) dX0_prepare_131 (rfl : 131 + 3 = 134) (fun Y103 => ?_)
      refine g_iinc (lv' := fun x104 => [some (.ref (q 0)), none, some (.int (iz v2)), some (.int (iz v3)), some (.int (iz x104))]) hX dX0_prepare_134 (rfl : 134 + 3 = 137) rfl (fun _ => rfl) (fun x104 => ?_)
      refine g_goto (pc' := 122) hX dX0_prepare_137 (by decide) ?_
      exact hk_122 v2 v3 x104 Y103
set_option maxRecDepth 100000 in
theorem wX0_prepare_111 {X : Cx} {D : va_G} {y : ClassId × ClassId × ClassId} {q qr : Nat → Nat} (hX : OKX X cX0_prepare RX0 (rmk 2) none D y) (v2 v3 : Int) (Y : St × St) : GF X cX0_prepare D (0, 0) (QV X D y (wT y q qr)) (fX0_prepare_j111 v2 v3 Y) 111 [some (.ref (q 0)), none, some (.int (iz v2)), some (.int (iz v3)), none] [] (wT y q qr Y) := by
  unfold fX0_prepare_j111
  refine g_aload_n hX dX0_prepare_111 (rfl : 111 + 1 = 112) rfl ?_
  refine ge_T_X0_34_T hX dX0_prepare_112 (rfl : 112 + 3 = 115) ?_
  refine ge_T_X0_57_R hX dX0_prepare_115 (rfl : 115 + 3 = 118) ?_
  refine g_iconst hX dX0_prepare_118 (rfl : 118 + 1 = 119) ?_
  refine g_isub hX dX0_prepare_119 (rfl : 119 + 1 = 120) ?_
  refine g_istore (lv' := fun x105 => [some (.ref (q 0)), none, some (.int (iz v2)), some (.int (iz v3)), some (.int (iz x105))]) hX dX0_prepare_120 (rfl : 120 + 2 = 122) rfl (fun _ => rfl) (fun x105 => ?_)
  exact wX0_prepare_122 hX FU v2 v3 x105 Y
set_option maxRecDepth 100000 in
theorem wX0_prepare_100 {X : Cx} {D : va_G} {y : ClassId × ClassId × ClassId} {q qr : Nat → Nat} (hX : OKX X cX0_prepare RX0 (rmk 2) none D y) {k_39 : Int → Int → Int → (St × St) → Option (St × St)} (hk_39 : ∀ (v1 v2 v3 : Int) (Y : St × St), GF X cX0_prepare D (0, 0) (QV X D y (wT y q qr)) (k_39 v1 v2 v3 Y) 39 [some (.ref (q 0)), some (.int (iz v1)), some (.int (iz v2)), some (.int (iz v3)), none] [] (wT y q qr Y)) (v1 v2 v3 v4 : Int) (Y : St × St) : GF X cX0_prepare D (0, 0) (QV X D y (wT y q qr)) (fX0_prepare_j100 k_39 v1 v2 v3 v4 Y) 100 [some (.ref (q 0)), some (.int (iz v1)), some (.int (iz v2)), some (.int (iz v3)), some (.int (iz v4))] [] (wT y q qr Y) := by
  unfold fX0_prepare_j100
  refine g_iload_n hX dX0_prepare_100 (rfl : 100 + 1 = 101) rfl ?_
  refine g_iload hX dX0_prepare_101 (rfl : 101 + 2 = 103) rfl ?_
  refine g_ior hX dX0_prepare_103 (rfl : 103 + 1 = 104) ?_
  refine g_istore_n (lv' := fun x106 => [some (.ref (q 0)), some (.int (iz v1)), some (.int (iz x106)), some (.int (iz v3)), some (.int (iz v4))]) hX dX0_prepare_104 (rfl : 104 + 1 = 105) rfl (fun _ => rfl) (fun x106 => ?_)
  refine g_iinc (lv' := fun x107 => [some (.ref (q 0)), some (.int (iz v1)), some (.int (iz x106)), some (.int (iz x107)), some (.int (iz v4))]) hX dX0_prepare_105 (rfl : 105 + 3 = 108) rfl (fun _ => rfl) (fun x107 => ?_)
  refine g_goto (pc' := 39) hX dX0_prepare_108 (by decide) ?_
  refine g_drop (lv' := [some (.ref (q 0)), some (.int (iz v1)), some (.int (iz x106)), some (.int (iz x107)), none]) 4 rfl ?_
  exact hk_39 v1 x106 x107 Y
set_option maxRecDepth 100000 in
theorem wX0_prepare_39 {X : Cx} {D : va_G} {y : ClassId × ClassId × ClassId} {q qr : Nat → Nat} (hX : OKX X cX0_prepare RX0 (rmk 2) none D y) : ∀ (n : Nat) (v1 v2 v3 : Int) (Y : St × St), GF X cX0_prepare D (0, 0) (QV X D y (wT y q qr)) (fX0_prepare_l39 n v1 v2 v3 Y) 39 [some (.ref (q 0)), some (.int (iz v1)), some (.int (iz v2)), some (.int (iz v3)), none] [] (wT y q qr Y) := by
  intro n
  induction n with
  | zero => intro v1 v2 v3 Y; exact g_none
  | succ n hk_39 =>
    intro v1 v2 v3 Y
    unfold fX0_prepare_l39
    refine g_iload_n hX dX0_prepare_39 (rfl : 39 + 1 = 40) rfl ?_
    refine g_aload_n hX dX0_prepare_40 (rfl : 40 + 1 = 41) rfl ?_
    refine ge_T_X0_34_T hX dX0_prepare_41 (rfl : 41 + 3 = 44) ?_
    refine ge_T_X0_57_R hX dX0_prepare_44 (rfl : 44 + 3 = 47) ?_
    refine g_icmp_ge (tgt := 111) hX dX0_prepare_47 (by decide) (rfl : 47 + 3 = 50) ?_ ?_
    · refine g_drop (lv' := [some (.ref (q 0)), none, some (.int (iz v2)), some (.int (iz v3)), none]) 1 rfl ?_
      exact wX0_prepare_111 hX v2 v3 Y
    · refine g_iload_n hX dX0_prepare_50 (rfl : 50 + 1 = 51) rfl ?_
      refine g_callp hX (kJ6_bitCount_0f7a4 _ _ _ _) mw_X0_62 (by decide) rfl rfl (Nat.le_of_ble_eq_true rfl) dX0_prepare_51 (rfl : 51 + 3 = 54) (fun r108 => ?_)
      refine g_iload_n hX dX0_prepare_54 (rfl : 54 + 1 = 55) rfl ?_
      refine g_icmp_ge (tgt := 111) hX dX0_prepare_55 (by decide) (rfl : 55 + 3 = 58) ?_ ?_
      · refine g_drop (lv' := [some (.ref (q 0)), none, some (.int (iz v2)), some (.int (iz v3)), none]) 1 rfl ?_
        exact wX0_prepare_111 hX v2 v3 Y
      · refine g_iconst hX dX0_prepare_58 (rfl : 58 + 1 = 59) ?_
        refine g_aload_n hX dX0_prepare_59 (rfl : 59 + 1 = 60) rfl ?_
        refine ge_T_X0_9_T hX dX0_prepare_60 (rfl : 60 + 3 = 63) ?_
        refine g_aload_n hX dX0_prepare_63 (rfl : 63 + 1 = 64) rfl ?_
        refine ge_T_X0_34_T hX dX0_prepare_64 (rfl : 64 + 3 = 67) ?_
        refine ge_T_X0_68_R hX dX0_prepare_67 (rfl : 67 + 3 = 70) ?_
        refine g_iload_n hX dX0_prepare_70 (rfl : 70 + 1 = 71) rfl ?_
        refine al_T_R_0 hX dX0_prepare_71 (rfl : 71 + 1 = 72) ?_
        refine al_T_T_1 hX dX0_prepare_72 (rfl : 72 + 1 = 73) ?_
        refine g_ishl hX dX0_prepare_73 (rfl : 73 + 1 = 74) ?_
        refine g_istore (lv' := fun x109 => [some (.ref (q 0)), some (.int (iz v1)), some (.int (iz v2)), some (.int (iz v3)), some (.int (iz x109))]) hX dX0_prepare_74 (rfl : 74 + 2 = 76) rfl (fun _ => rfl) (fun x109 => ?_)
        refine g_iload_n hX dX0_prepare_76 (rfl : 76 + 1 = 77) rfl ?_
        refine g_iload hX dX0_prepare_77 (rfl : 77 + 2 = 79) rfl ?_
        refine g_iand hX dX0_prepare_79 (rfl : 79 + 1 = 80) ?_
        refine g_if_ne (tgt := 100) hX dX0_prepare_80 (by decide) (rfl : 80 + 3 = 83) ?_ ?_
        · exact wX0_prepare_100 hX hk_39 v1 v2 v3 x109 Y
        · refine g_aload_n hX dX0_prepare_83 (rfl : 83 + 1 = 84) rfl ?_
          refine g_dup hX dX0_prepare_84 rfl (rfl : 84 + 1 = 85) ?_
          refine ge_T_X0_42_T hX dX0_prepare_85 (rfl : 85 + 3 = 88) ?_
          refine g_aload_n hX dX0_prepare_88 (rfl : 88 + 1 = 89) rfl ?_
          refine ge_T_X0_34_T hX dX0_prepare_89 (rfl : 89 + 3 = 92) ?_
          refine g_iload_n hX dX0_prepare_92 (rfl : 92 + 1 = 93) rfl ?_
          refine ci_TR hX (kX1_priceAt _ _ _ (qr) _ _) mw_X0_71 (by decide) rfl rfl (Nat.le_of_ble_eq_true rfl) dX0_prepare_93 (rfl : 93 + 3 = 96) (fun r111 Y110 => ?_)
          refine g_iadd hX dX0_prepare_96 (rfl : 96 + 1 = 97) ?_
          refine pu_T_X0_42_T hX dX0_prepare_97 (rfl : 97 + 3 = 100) (fun Y112 => ?_)
          exact wX0_prepare_100 hX hk_39 v1 v2 v3 x109 Y112
set_option maxRecDepth 100000 in
theorem kX0_prepare (l : Launch) (D : va_G) (y : ClassId × ClassId × ClassId) (q qr : Nat → Nat) (Y : St × St) (a0 : Int) : CtV l D y yX0_prepare cX0_prepare 5 (rmk 2) [.ref (q 0), .int (iz a0)] (wT y q qr) Y (fX0_prepare Y a0) := by
  refine ctV_of (own := RX0) rfl (by decide) (cat1 rfl) rfl (fun X hl hX => ?_)
  subst hl
  show GF X cX0_prepare D (0, 0) (QV X D y (wT y q qr)) (fX0_prepare Y a0) 0 [some (.ref (q 0)), some (.int (iz a0)), none, none, none] [] (wT y q qr Y)
  unfold fX0_prepare
  refine g_aload_n hX dX0_prepare_0 (rfl : 0 + 1 = 1) rfl ?_
  refine ge_T_X0_38_T hX dX0_prepare_1 (rfl : 1 + 3 = 4) ?_
  refine g_iload_n hX dX0_prepare_4 (rfl : 4 + 1 = 5) rfl ?_
  refine g_icmp_ne (tgt := 9) hX dX0_prepare_5 (by decide) (rfl : 5 + 3 = 8) ?_ ?_
  · refine g_aload_n hX dX0_prepare_9 (rfl : 9 + 1 = 10) rfl ?_
    refine g_iload_n hX dX0_prepare_10 (rfl : 10 + 1 = 11) rfl ?_
    refine pu_T_X0_38_T hX dX0_prepare_11 (rfl : 11 + 3 = 14) (fun Y1 => ?_)
    refine g_aload_n hX dX0_prepare_14 (rfl : 14 + 1 = 15) rfl ?_
    refine g_iconst hX dX0_prepare_15 (rfl : 15 + 1 = 16) ?_
    refine pu_T_X0_42_T hX dX0_prepare_16 (rfl : 16 + 3 = 19) (fun Y2 => ?_)
    refine g_aload_n hX dX0_prepare_19 (rfl : 19 + 1 = 20) rfl ?_
    refine ge_T_X0_31_T hX dX0_prepare_20 (rfl : 20 + 3 = 23) ?_
    refine g_iconst hX dX0_prepare_23 (rfl : 23 + 1 = 24) ?_
    refine fi_T_X0_T_7 hX (by decide) (Nat.le_of_ble_eq_true rfl) dX0_prepare_24 (rfl : 24 + 3 = 27) (fun Y3 => ?_)
    refine g_aload_n hX dX0_prepare_27 (rfl : 27 + 1 = 28) rfl ?_
    refine cv_TT hX (kX0_numberThings _ _ _ (q) (qr) _) mw_X0_51 (by decide) rfl rfl (Nat.le_of_ble_eq_true rfl) dX0_prepare_28 (rfl : 28 + 3 = 31) (fun Y4 => ?_)
    refine g_aload_n hX dX0_prepare_31 (rfl : 31 + 1 = 32) rfl ?_
    refine cv_TT hX (kX0_listFullMasks _ _ _ (q) (qr) _) mw_X0_54 (by decide) rfl rfl (Nat.le_of_ble_eq_true rfl) dX0_prepare_32 (rfl : 32 + 3 = 35) (fun Y5 => ?_)
    refine g_iconst hX dX0_prepare_35 (rfl : 35 + 1 = 36) ?_
    refine g_istore_n (lv' := fun x6 => [some (.ref (q 0)), some (.int (iz a0)), some (.int (iz x6)), none, none]) hX dX0_prepare_36 (rfl : 36 + 1 = 37) rfl (fun _ => rfl) (fun x6 => ?_)
    refine g_iconst hX dX0_prepare_37 (rfl : 37 + 1 = 38) ?_
    refine g_istore_n (lv' := fun x7 => [some (.ref (q 0)), some (.int (iz a0)), some (.int (iz x6)), some (.int (iz x7)), none]) hX dX0_prepare_38 (rfl : 38 + 1 = 39) rfl (fun _ => rfl) (fun x7 => ?_)
    exact wX0_prepare_39 hX FU a0 x6 x7 Y5
  · exact g_vret hX dX0_prepare_8
