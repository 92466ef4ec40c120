set_option maxRecDepth 100000 in
theorem wX4_in_15 {X : Cx} {D : va_G} {y : ClassId × ClassId × ClassId} (hX : OKX X cX4_in RX4 (rmk 0) (some .boolean) D y) (s0 : Int) : GF X cX4_in D (0, 0) (QP X) (fX4_in_j15 s0) 15 [none, none, none] [.int (iz s0)] [] := by
  unfold fX4_in_j15
  exact g_zretP hX dX4_in_15
set_option maxRecDepth 100000 in
theorem wX4_in_14 {X : Cx} {D : va_G} {y : ClassId × ClassId × ClassId} (hX : OKX X cX4_in RX4 (rmk 0) (some .boolean) D y) : GF X cX4_in D (0, 0) (QP X) (fX4_in_j14 ) 14 [none, none, none] [] [] := by
  unfold fX4_in_j14
  refine g_iconst hX dX4_in_14 (rfl : 14 + 1 = 15) ?_
  exact wX4_in_15 hX 0
set_option maxRecDepth 100000 in
theorem kX4_in (l : Launch) (D : va_G) (y : ClassId × ClassId × ClassId) (a0 a1 a2 : Int) : CtP l D y yX4_in cX4_in 3 (some .boolean) (rmk 0) [.int (iz a0), .int (iz a1), .int (iz a2)] (fX4_in a0 a1 a2) := by
  refine ctP_of (own := RX4) rfl (by decide) (cat1 rfl) rfl (fun X hl hX => ?_)
  subst hl
  show GF X cX4_in D (0, 0) (QP X) (fX4_in a0 a1 a2) 0 [some (.int (iz a0)), some (.int (iz a1)), some (.int (iz a2))] [] []
  unfold fX4_in
  refine g_iload_n hX dX4_in_0 (rfl : 0 + 1 = 1) rfl ?_
  refine g_iload_n hX dX4_in_1 (rfl : 1 + 1 = 2) rfl ?_
  refine g_icmp_lt (tgt := 14) hX dX4_in_2 (by decide) (rfl : 2 + 3 = 5) ?_ ?_
  · refine g_drop (lv' := [none, some (.int (iz a1)), some (.int (iz a2))]) 0 rfl ?_
    refine g_drop (lv' := [none, none, some (.int (iz a2))]) 1 rfl ?_
    refine g_drop (lv' := [none, none, none]) 2 rfl ?_
    exact wX4_in_14 hX 
  · refine g_iload_n hX dX4_in_5 (rfl : 5 + 1 = 6) rfl ?_
    refine g_iload_n hX dX4_in_6 (rfl : 6 + 1 = 7) rfl ?_
    refine g_icmp_gt (tgt := 14) hX dX4_in_7 (by decide) (rfl : 7 + 3 = 10) ?_ ?_
    · refine g_drop (lv' := [none, some (.int (iz a1)), some (.int (iz a2))]) 0 rfl ?_
      refine g_drop (lv' := [none, none, some (.int (iz a2))]) 1 rfl ?_
      refine g_drop (lv' := [none, none, none]) 2 rfl ?_
      exact wX4_in_14 hX 
    · refine g_iconst hX dX4_in_10 (rfl : 10 + 1 = 11) ?_
      refine g_goto (pc' := 15) hX dX4_in_11 (by decide) ?_
      refine g_drop (lv' := [none, some (.int (iz a1)), some (.int (iz a2))]) 0 rfl ?_
      refine g_drop (lv' := [none, none, some (.int (iz a2))]) 1 rfl ?_
      refine g_drop (lv' := [none, none, none]) 2 rfl ?_
      exact wX4_in_15 hX 1
set_option maxRecDepth 100000 in
theorem kX4_isThing (l : Launch) (D : va_G) (y : ClassId × ClassId × ClassId) (a0 : Int) : CtP l D y yX4_isThing cX4_isThing 1 (some .boolean) (rmk 1) [.int (iz a0)] (fX4_isThing a0) := by
  refine ctP_of (own := RX4) rfl (by decide) (cat1 rfl) rfl (fun X hl hX => ?_)
  subst hl
  show GF X cX4_isThing D (0, 0) (QP X) (fX4_isThing a0) 0 [some (.int (iz a0))] [] []
  unfold fX4_isThing
  refine g_iload_n hX dX4_isThing_0 (rfl : 0 + 1 = 1) rfl ?_
  refine g_iconst hX dX4_isThing_1 (rfl : 1 + 1 = 2) ?_
  refine g_bipush hX dX4_isThing_2 (by decide) (rfl : 2 + 2 = 4) ?_
  refine g_callp hX (kX4_in _ _ _ _ _ _) mw_X4_69 (by decide) rfl rfl (Nat.le_of_ble_eq_true rfl) dX4_isThing_4 (rfl : 4 + 3 = 7) (fun r1 => ?_)
  exact g_zretP hX dX4_isThing_7
set_option maxRecDepth 100000 in
theorem kX4_isAsking (l : Launch) (D : va_G) (y : ClassId × ClassId × ClassId) (q : Nat → Nat) (Y : St) (a0 : Int) : CtI l D y yX4_isAsking cX4_isAsking 2 (some .boolean) (rmk 1) [.ref (q 0), .int (iz a0)] (wM y q) Y (fX4_isAsking Y a0) := by
  refine ctI_of (own := RX4) rfl (by decide) (cat1 rfl) rfl (fun X hl hX => ?_)
  subst hl
  show GF X cX4_isAsking D (0, 0) (QI X D y (wM y q)) (fX4_isAsking Y a0) 0 [some (.ref (q 0)), some (.int (iz a0))] [] (wM y q Y)
  unfold fX4_isAsking
  refine g_iload_n hX dX4_isAsking_0 (rfl : 0 + 1 = 1) rfl ?_
  refine g_iconst hX dX4_isAsking_1 (rfl : 1 + 1 = 2) ?_
  refine g_aload_n hX dX4_isAsking_2 (rfl : 2 + 1 = 3) rfl ?_
  refine ge_M_X4_73_M hX dX4_isAsking_3 (rfl : 3 + 3 = 6) ?_
  refine g_iconst hX dX4_isAsking_6 (rfl : 6 + 1 = 7) ?_
  refine g_isub hX dX4_isAsking_7 (rfl : 7 + 1 = 8) ?_
  refine g_callp hX (kX4_in _ _ _ _ _ _) mw_X4_69 (by decide) rfl rfl (Nat.le_of_ble_eq_true rfl) dX4_isAsking_8 (rfl : 8 + 3 = 11) (fun r1 => ?_)
  exact g_zret hX dX4_isAsking_11
set_option maxRecDepth 100000 in
theorem wX4_price_18 {X : Cx} {D : va_G} {y : ClassId × ClassId × ClassId} {q : Nat → Nat} (hX : OKX X cX4_price RX4 (rmk 2) (some .int) D y) (Y : St) : GF X cX4_price D (0, 0) (QI X D y (wM y q)) (fX4_price_j18  Y) 18 [some (.ref (q 0)), none, none] [] (wM y q Y) := by
  unfold fX4_price_j18
  refine g_iconst hX dX4_price_18 (rfl : 18 + 1 = 19) ?_
  exact g_iret hX dX4_price_19
set_option maxRecDepth 100000 in
theorem kX4_price (l : Launch) (D : va_G) (y : ClassId × ClassId × ClassId) (q : Nat → Nat) (Y : St) (a0 a1 : Int) : CtI l D y yX4_price cX4_price 3 (some .int) (rmk 2) [.ref (q 0), .int (iz a0), .int (iz a1)] (wM y q) Y (fX4_price Y a0 a1) := by
  refine ctI_of (own := RX4) rfl (by decide) (cat1 rfl) rfl (fun X hl hX => ?_)
  subst hl
  show GF X cX4_price D (0, 0) (QI X D y (wM y q)) (fX4_price Y a0 a1) 0 [some (.ref (q 0)), some (.int (iz a0)), some (.int (iz a1))] [] (wM y q Y)
  unfold fX4_price
  refine g_iload_n hX dX4_price_0 (rfl : 0 + 1 = 1) rfl ?_
  refine g_callp hX (kX4_isThing _ _ _ _) mw_X4_77 (by decide) rfl rfl (Nat.le_of_ble_eq_true rfl) dX4_price_1 (rfl : 1 + 3 = 4) (fun r1 => ?_)
  refine g_if_eq (tgt := 18) hX dX4_price_4 (by decide) (rfl : 4 + 3 = 7) ?_ ?_
  · refine g_drop (lv' := [some (.ref (q 0)), none, some (.int (iz a1))]) 1 rfl ?_
    refine g_drop (lv' := [some (.ref (q 0)), none, none]) 2 rfl ?_
    exact wX4_price_18 hX  Y
  · refine g_iload_n hX dX4_price_7 (rfl : 7 + 1 = 8) rfl ?_
    refine g_iconst hX dX4_price_8 (rfl : 8 + 1 = 9) ?_
    refine g_sipush hX dX4_price_9 (by decide) (rfl : 9 + 3 = 12) ?_
    refine g_callp hX (kX4_in _ _ _ _ _ _) mw_X4_69 (by decide) rfl rfl (Nat.le_of_ble_eq_true rfl) dX4_price_12 (rfl : 12 + 3 = 15) (fun r2 => ?_)
    refine g_if_ne (tgt := 20) hX dX4_price_15 (by decide) (rfl : 15 + 3 = 18) ?_ ?_
    · refine g_aload_n hX dX4_price_20 (rfl : 20 + 1 = 21) rfl ?_
      refine g_iconst hX dX4_price_21 (rfl : 21 + 1 = 22) ?_
      refine pu_M_X4_81_M hX dX4_price_22 (rfl : 22 + 3 = 25) (fun Y3 => ?_)
      refine g_aload_n hX dX4_price_25 (rfl : 25 + 1 = 26) rfl ?_
      refine ge_M_X4_7_M hX dX4_price_26 (rfl : 26 + 3 = 29) ?_
      refine g_iload_n hX dX4_price_29 (rfl : 29 + 1 = 30) rfl ?_
      refine g_iload_n hX dX4_price_30 (rfl : 30 + 1 = 31) rfl ?_
      refine as_M_M_0 hX dX4_price_31 (rfl : 31 + 1 = 32) (fun Y4 => ?_)
      refine g_iconst hX dX4_price_32 (rfl : 32 + 1 = 33) ?_
      exact g_iret hX dX4_price_33
    · refine g_drop (lv' := [some (.ref (q 0)), none, some (.int (iz a1))]) 1 rfl ?_
      refine g_drop (lv' := [some (.ref (q 0)), none, none]) 2 rfl ?_
      exact wX4_price_18 hX  Y
set_option maxRecDepth 100000 in
theorem kX4_add (l : Launch) (D : va_G) (y : ClassId × ClassId × ClassId) (q : Nat → Nat) (Y : St) (a0 : Int) : CtV l D y yX4_add cX4_add 2 (rmk 0) [.ref (q 0), .int (iz a0)] (wM y q) Y (fX4_add Y a0) := by
  refine ctV_of (own := RX4) rfl (by decide) (cat1 rfl) rfl (fun X hl hX => ?_)
  subst hl
  show GF X cX4_add D (0, 0) (QV X D y (wM y q)) (fX4_add Y a0) 0 [some (.ref (q 0)), some (.int (iz a0))] [] (wM y q Y)
  unfold fX4_add
  refine g_aload_n hX dX4_add_0 (rfl : 0 + 1 = 1) rfl ?_
  refine ge_M_X4_13_M hX dX4_add_1 (rfl : 1 + 3 = 4) ?_
  refine g_aload_n hX dX4_add_4 (rfl : 4 + 1 = 5) rfl ?_
  refine ge_M_X4_73_M hX dX4_add_5 (rfl : 5 + 3 = 8) ?_
  refine g_iload_n hX dX4_add_8 (rfl : 8 + 1 = 9) rfl ?_
  refine as_M_M_1 hX dX4_add_9 (rfl : 9 + 1 = 10) (fun Y1 => ?_)
  refine g_aload_n hX dX4_add_10 (rfl : 10 + 1 = 11) rfl ?_
  refine g_dup hX dX4_add_11 rfl (rfl : 11 + 1 = 12) ?_
  refine ge_M_X4_73_M hX dX4_add_12 (rfl : 12 + 3 = 15) ?_
  refine g_iconst hX dX4_add_15 (rfl : 15 + 1 = 16) ?_
  refine g_iadd hX dX4_add_16 (rfl : 16 + 1 = 17) ?_
  refine pu_M_X4_73_M hX dX4_add_17 (rfl : 17 + 3 = 20) (fun Y2 => ?_)
  exact g_vret hX dX4_add_20
set_option maxRecDepth 100000 in
theorem wX4_ask_126 {X : Cx} {D : va_G} {y : ClassId × ClassId × ClassId} {q : Nat → Nat} (hX : OKX X cX4_ask RX4 (rmk 2) (some .int) D y) (Y : St) : GF X cX4_ask D (0, 0) (QI X D y (wM y q)) (fX4_ask_j126  Y) 126 [some (.ref (q 0)), none, none, none, none, none, none, none] [] (wM y q Y) := by
  unfold fX4_ask_j126
  refine g_aload_n hX dX4_ask_126 (rfl : 126 + 1 = 127) rfl ?_
  refine ge_M_X4_73_M hX dX4_ask_127 (rfl : 127 + 3 = 130) ?_
  exact g_iret hX dX4_ask_130
set_option maxRecDepth 100000 in
theorem wX4_ask_102 {X : Cx} {D : va_G} {y : ClassId × ClassId × ClassId} {q : Nat → Nat} (hX : OKX X cX4_ask RX4 (rmk 2) (some .int) D y) : ∀ (n : Nat) (v6 v7 : Int) (Y : St), GF X cX4_ask D (0, 0) (QI X D y (wM y q)) (fX4_ask_l102 n v6 v7 Y) 102 [some (.ref (q 0)), none, none, none, none, none, some (.int (iz v6)), some (.int (iz v7))] [] (wM y q Y) := by
  intro n
  induction n with
  | zero => intro v6 v7 Y; exact g_none
  | succ n hk_102 =>
    intro v6 v7 Y
    unfold fX4_ask_l102
    refine g_iload hX dX4_ask_102 (rfl : 102 + 2 = 104) rfl ?_
    refine g_iload hX dX4_ask_104 (rfl : 104 + 2 = 106) rfl ?_
    refine g_icmp_ge (tgt := 126) hX dX4_ask_106 (by decide) (rfl : 106 + 3 = 109) ?_ ?_
    · refine g_drop (lv' := [some (.ref (q 0)), none, none, none, none, none, none, some (.int (iz v7))]) 6 rfl ?_
      refine g_drop (lv' := [some (.ref (q 0)), none, none, none, none, none, none, none]) 7 rfl ?_
      exact wX4_ask_126 hX  Y
    · refine g_aload_n hX dX4_ask_109 (rfl : 109 + 1 = 110) rfl ?_
      refine g_aload_n hX dX4_ask_110 (rfl : 110 + 1 = 111) rfl ?_
      refine ge_M_X4_25_M hX dX4_ask_111 (rfl : 111 + 3 = 114) ?_
      refine g_iload hX dX4_ask_114 (rfl : 114 + 2 = 116) rfl ?_
      refine al_M_M_10 hX dX4_ask_116 (rfl : 116 + 1 = 117) ?_
      refine cv_MM hX (kX4_add _ _ _ (q) _ _) mw_X4_85 (by decide) rfl rfl (Nat.le_of_ble_eq_true rfl) dX4_ask_117 (rfl : 117 + 3 = 120) (fun Y101 => ?_)
      refine g_iinc (lv' := fun x102 => [some (.ref (q 0)), none, none, none, none, none, some (.int (iz v6)), some (.int (iz x102))]) hX dX4_ask_120 (rfl : 120 + 3 = 123) rfl (fun _ => rfl) (fun x102 => ?_)
      refine g_goto (pc' := 102) hX dX4_ask_123 (by decide) ?_
      exact hk_102 v6 x102 Y101
set_option maxRecDepth 100000 in
theorem wX4_ask_78 {X : Cx} {D : va_G} {y : ClassId × ClassId × ClassId} {q : Nat → Nat} (hX : OKX X cX4_ask RX4 (rmk 2) (some .int) D y) (v6 : Int) (Y : St) : GF X cX4_ask D (0, 0) (QI X D y (wM y q)) (fX4_ask_j78 v6 Y) 78 [some (.ref (q 0)), none, none, none, none, none, some (.int (iz v6)), none] [] (wM y q Y) := by
  unfold fX4_ask_j78
  refine g_aload_n hX dX4_ask_78 (rfl : 78 + 1 = 79) rfl ?_
  refine ge_M_X4_73_M hX dX4_ask_79 (rfl : 79 + 3 = 82) ?_
  refine g_iload hX dX4_ask_82 (rfl : 82 + 2 = 84) rfl ?_
  refine g_iadd hX dX4_ask_84 (rfl : 84 + 1 = 85) ?_
  refine g_sipush hX dX4_ask_85 (by decide) (rfl : 85 + 3 = 88) ?_
  refine g_icmp_le (tgt := 94) hX dX4_ask_88 (by decide) (rfl : 88 + 3 = 91) ?_ ?_
  · refine g_aload_n hX dX4_ask_94 (rfl : 94 + 1 = 95) rfl ?_
    refine g_iconst hX dX4_ask_95 (rfl : 95 + 1 = 96) ?_
    refine pu_M_X4_81_M hX dX4_ask_96 (rfl : 96 + 3 = 99) (fun Y103 => ?_)
    refine g_iconst hX dX4_ask_99 (rfl : 99 + 1 = 100) ?_
    refine g_istore (lv' := fun x104 => [some (.ref (q 0)), none, none, none, none, none, some (.int (iz v6)), some (.int (iz x104))]) hX dX4_ask_100 (rfl : 100 + 2 = 102) rfl (fun _ => rfl) (fun x104 => ?_)
    exact wX4_ask_102 hX FU v6 x104 Y103
  · refine g_bipush hX dX4_ask_91 (by decide) (rfl : 91 + 2 = 93) ?_
    exact g_iret hX dX4_ask_93
set_option maxRecDepth 100000 in
theorem wX4_ask_40 {X : Cx} {D : va_G} {y : ClassId × ClassId × ClassId} {q : Nat → Nat} (hX : OKX X cX4_ask RX4 (rmk 2) (some .int) D y) : ∀ (n : Nat) (v6 : Int) (Y : St), GF X cX4_ask D (0, 0) (QI X D y (wM y q)) (fX4_ask_l40 n v6 Y) 40 [some (.ref (q 0)), none, none, none, none, none, some (.int (iz v6)), none] [] (wM y q Y) := by
  intro n
  induction n with
  | zero => intro v6 Y; exact g_none
  | succ n hk_40 =>
    intro v6 Y
    unfold fX4_ask_l40
    refine g_iload hX dX4_ask_40 (rfl : 40 + 2 = 42) rfl ?_
    refine g_iconst hX dX4_ask_42 (rfl : 42 + 1 = 43) ?_
    refine g_icmp_ge (tgt := 78) hX dX4_ask_43 (by decide) (rfl : 43 + 3 = 46) ?_ ?_
    · exact wX4_ask_78 hX v6 Y
    · refine g_aload_n hX dX4_ask_46 (rfl : 46 + 1 = 47) rfl ?_
      refine ge_M_X4_25_M hX dX4_ask_47 (rfl : 47 + 3 = 50) ?_
      refine g_iload hX dX4_ask_50 (rfl : 50 + 2 = 52) rfl ?_
      refine al_M_M_10 hX dX4_ask_52 (rfl : 52 + 1 = 53) ?_
      refine g_iconst hX dX4_ask_53 (rfl : 53 + 1 = 54) ?_
      refine g_icmp_eq (tgt := 78) hX dX4_ask_54 (by decide) (rfl : 54 + 3 = 57) ?_ ?_
      · exact wX4_ask_78 hX v6 Y
      · refine g_aload_n hX dX4_ask_57 (rfl : 57 + 1 = 58) rfl ?_
        refine ge_M_X4_25_M hX dX4_ask_58 (rfl : 58 + 3 = 61) ?_
        refine g_iload hX dX4_ask_61 (rfl : 61 + 2 = 63) rfl ?_
        refine al_M_M_10 hX dX4_ask_63 (rfl : 63 + 1 = 64) ?_
        refine g_callp hX (kX4_isThing _ _ _ _) mw_X4_77 (by decide) rfl rfl (Nat.le_of_ble_eq_true rfl) dX4_ask_64 (rfl : 64 + 3 = 67) (fun r105 => ?_)
        refine g_if_ne (tgt := 72) hX dX4_ask_67 (by decide) (rfl : 67 + 3 = 70) ?_ ?_
        · refine g_iinc (lv' := fun x106 => [some (.ref (q 0)), none, none, none, none, none, some (.int (iz x106)), none]) hX dX4_ask_72 (rfl : 72 + 3 = 75) rfl (fun _ => rfl) (fun x106 => ?_)
          refine g_goto (pc' := 40) hX dX4_ask_75 (by decide) ?_
          exact hk_40 x106 Y
        · refine g_iconst hX dX4_ask_70 (rfl : 70 + 1 = 71) ?_
          exact g_iret hX dX4_ask_71
set_option maxRecDepth 100000 in
theorem kX4_ask (l : Launch) (D : va_G) (y : ClassId × ClassId × ClassId) (q : Nat → Nat) (Y : St) (a0 a1 a2 a3 a4 : Int) : CtI l D y yX4_ask cX4_ask 8 (some .int) (rmk 2) [.ref (q 0), .int (iz a0), .int (iz a1), .int (iz a2), .int (iz a3), .int (iz a4)] (wM y q) Y (fX4_ask Y a0 a1 a2 a3 a4) := by
  refine ctI_of (own := RX4) rfl (by decide) (cat1 rfl) rfl (fun X hl hX => ?_)
  subst hl
  show GF X cX4_ask D (0, 0) (QI X D y (wM y q)) (fX4_ask Y a0 a1 a2 a3 a4) 0 [some (.ref (q 0)), some (.int (iz a0)), some (.int (iz a1)), some (.int (iz a2)), some (.int (iz a3)), some (.int (iz a4)), none, none] [] (wM y q Y)
  unfold fX4_ask
  refine g_aload_n hX dX4_ask_0 (rfl : 0 + 1 = 1) rfl ?_
  refine ge_M_X4_25_M hX dX4_ask_1 (rfl : 1 + 3 = 4) ?_
  refine g_iconst hX dX4_ask_4 (rfl : 4 + 1 = 5) ?_
  refine g_iload_n hX dX4_ask_5 (rfl : 5 + 1 = 6) rfl ?_
  refine as_M_M_10 hX dX4_ask_6 (rfl : 6 + 1 = 7) (fun Y1 => ?_)
  refine g_aload_n hX dX4_ask_7 (rfl : 7 + 1 = 8) rfl ?_
  refine ge_M_X4_25_M hX dX4_ask_8 (rfl : 8 + 3 = 11) ?_
  refine g_iconst hX dX4_ask_11 (rfl : 11 + 1 = 12) ?_
  refine g_iload_n hX dX4_ask_12 (rfl : 12 + 1 = 13) rfl ?_
  refine as_M_M_10 hX dX4_ask_13 (rfl : 13 + 1 = 14) (fun Y2 => ?_)
  refine g_aload_n hX dX4_ask_14 (rfl : 14 + 1 = 15) rfl ?_
  refine ge_M_X4_25_M hX dX4_ask_15 (rfl : 15 + 3 = 18) ?_
  refine g_iconst hX dX4_ask_18 (rfl : 18 + 1 = 19) ?_
  refine g_iload_n hX dX4_ask_19 (rfl : 19 + 1 = 20) rfl ?_
  refine as_M_M_10 hX dX4_ask_20 (rfl : 20 + 1 = 21) (fun Y3 => ?_)
  refine g_aload_n hX dX4_ask_21 (rfl : 21 + 1 = 22) rfl ?_
  refine ge_M_X4_25_M hX dX4_ask_22 (rfl : 22 + 3 = 25) ?_
  refine g_iconst hX dX4_ask_25 (rfl : 25 + 1 = 26) ?_
  refine g_iload hX dX4_ask_26 (rfl : 26 + 2 = 28) rfl ?_
  refine as_M_M_10 hX dX4_ask_28 (rfl : 28 + 1 = 29) (fun Y4 => ?_)
  refine g_aload_n hX dX4_ask_29 (rfl : 29 + 1 = 30) rfl ?_
  refine ge_M_X4_25_M hX dX4_ask_30 (rfl : 30 + 3 = 33) ?_
  refine g_iconst hX dX4_ask_33 (rfl : 33 + 1 = 34) ?_
  refine g_iload hX dX4_ask_34 (rfl : 34 + 2 = 36) rfl ?_
  refine as_M_M_10 hX dX4_ask_36 (rfl : 36 + 1 = 37) (fun Y5 => ?_)
  refine g_iconst hX dX4_ask_37 (rfl : 37 + 1 = 38) ?_
  refine g_istore (lv' := fun x6 => [some (.ref (q 0)), some (.int (iz a0)), some (.int (iz a1)), some (.int (iz a2)), some (.int (iz a3)), some (.int (iz a4)), some (.int (iz x6)), none]) hX dX4_ask_38 (rfl : 38 + 2 = 40) rfl (fun _ => rfl) (fun x6 => ?_)
  refine g_drop (lv' := [some (.ref (q 0)), none, some (.int (iz a1)), some (.int (iz a2)), some (.int (iz a3)), some (.int (iz a4)), some (.int (iz x6)), none]) 1 rfl ?_
  refine g_drop (lv' := [some (.ref (q 0)), none, none, some (.int (iz a2)), some (.int (iz a3)), some (.int (iz a4)), some (.int (iz x6)), none]) 2 rfl ?_
  refine g_drop (lv' := [some (.ref (q 0)), none, none, none, some (.int (iz a3)), some (.int (iz a4)), some (.int (iz x6)), none]) 3 rfl ?_
  refine g_drop (lv' := [some (.ref (q 0)), none, none, none, none, some (.int (iz a4)), some (.int (iz x6)), none]) 4 rfl ?_
  refine g_drop (lv' := [some (.ref (q 0)), none, none, none, none, none, some (.int (iz x6)), none]) 5 rfl ?_
  exact wX4_ask_40 hX FU x6 Y5
set_option maxRecDepth 100000 in
theorem wX4_draw_83 {X : Cx} {D : va_G} {y : ClassId × ClassId × ClassId} {q : Nat → Nat} (hX : OKX X cX4_draw RX4 (rmk 1) (some .int) D y) (Y : St) : GF X cX4_draw D (0, 0) (QI X D y (wM y q)) (fX4_draw_j83  Y) 83 [some (.ref (q 0)), none, none, none, none, none] [] (wM y q Y) := by
  unfold fX4_draw_j83
  refine g_aload_n hX dX4_draw_83 (rfl : 83 + 1 = 84) rfl ?_
  refine ge_M_X4_73_M hX dX4_draw_84 (rfl : 84 + 3 = 87) ?_
  exact g_iret hX dX4_draw_87
set_option maxRecDepth 100000 in
theorem wX4_draw_49 {X : Cx} {D : va_G} {y : ClassId × ClassId × ClassId} {q : Nat → Nat} (hX : OKX X cX4_draw RX4 (rmk 1) (some .int) D y) : ∀ (n : Nat) (v1 v2 v4 v5 : Int) (Y : St), GF X cX4_draw D (0, 0) (QI X D y (wM y q)) (fX4_draw_l49 n v1 v2 v4 v5 Y) 49 [some (.ref (q 0)), some (.int (iz v1)), some (.int (iz v2)), none, some (.int (iz v4)), some (.int (iz v5))] [] (wM y q Y) := by
  intro n
  induction n with
  | zero => intro v1 v2 v4 v5 Y; exact g_none
  | succ n hk_49 =>
    intro v1 v2 v4 v5 Y
    unfold fX4_draw_l49
    refine g_iload hX dX4_draw_49 (rfl : 49 + 2 = 51) rfl ?_
    refine g_iload_n hX dX4_draw_51 (rfl : 51 + 1 = 52) rfl ?_
    refine g_icmp_ge (tgt := 83) hX dX4_draw_52 (by decide) (rfl : 52 + 3 = 55) ?_ ?_
    · refine g_drop (lv' := [some (.ref (q 0)), none, some (.int (iz v2)), none, some (.int (iz v4)), some (.int (iz v5))]) 1 rfl ?_
      refine g_drop (lv' := [some (.ref (q 0)), none, none, none, some (.int (iz v4)), some (.int (iz v5))]) 2 rfl ?_
      refine g_drop (lv' := [some (.ref (q 0)), none, none, none, none, some (.int (iz v5))]) 4 rfl ?_
      refine g_drop (lv' := [some (.ref (q 0)), none, none, none, none, none]) 5 rfl ?_
      exact wX4_draw_83 hX  Y
    · refine g_ldc hX (1103515245) mc_X4_89 (by decide) dX4_draw_55 (rfl : 55 + 2 = 57) ?_
      refine g_iload hX dX4_draw_57 (rfl : 57 + 2 = 59) rfl ?_
      refine g_imul hX dX4_draw_59 (rfl : 59 + 1 = 60) ?_
      refine g_sipush hX dX4_draw_60 (by decide) (rfl : 60 + 3 = 63) ?_
      refine g_iadd hX dX4_draw_63 (rfl : 63 + 1 = 64) ?_
      refine g_istore (lv' := fun x101 => [some (.ref (q 0)), some (.int (iz v1)), some (.int (iz v2)), none, some (.int (iz x101)), some (.int (iz v5))]) hX dX4_draw_64 (rfl : 64 + 2 = 66) rfl (fun _ => rfl) (fun x101 => ?_)
      refine g_aload_n hX dX4_draw_66 (rfl : 66 + 1 = 67) rfl ?_
      refine g_iload hX dX4_draw_67 (rfl : 67 + 2 = 69) rfl ?_
      refine g_bipush hX dX4_draw_69 (by decide) (rfl : 69 + 2 = 71) ?_
      refine g_iushr hX dX4_draw_71 (rfl : 71 + 1 = 72) ?_
      refine g_iload_n hX dX4_draw_72 (rfl : 72 + 1 = 73) rfl ?_
      refine g_irem hX dX4_draw_73 (rfl : 73 + 1 = 74) ?_
      refine cv_MM hX (kX4_add _ _ _ (q) _ _) mw_X4_85 (by decide) rfl rfl (Nat.le_of_ble_eq_true rfl) dX4_draw_74 (rfl : 74 + 3 = 77) (fun Y102 => ?_)
      refine g_iinc (lv' := fun x103 => [some (.ref (q 0)), some (.int (iz v1)), some (.int (iz v2)), none, some (.int (iz x101)), some (.int (iz x103))]) hX dX4_draw_77 (rfl : 77 + 3 = 80) rfl (fun _ => rfl) (fun x103 => ?_)
      refine g_goto (pc' := 49) hX dX4_draw_80 (by decide) ?_
      exact hk_49 v1 v2 x101 x103 Y102
set_option maxRecDepth 100000 in
theorem wX4_draw_21 {X : Cx} {D : va_G} {y : ClassId × ClassId × ClassId} {q : Nat → Nat} (hX : OKX X cX4_draw RX4 (rmk 1) (some .int) D y) (Y : St) : GF X cX4_draw D (0, 0) (QI X D y (wM y q)) (fX4_draw_j21  Y) 21 [some (.ref (q 0)), none, none, none, none, none] [] (wM y q Y) := by
  unfold fX4_draw_j21
  refine g_iconst hX dX4_draw_21 (rfl : 21 + 1 = 22) ?_
  exact g_iret hX dX4_draw_22
set_option maxRecDepth 100000 in
theorem kX4_draw (l : Launch) (D : va_G) (y : ClassId × ClassId × ClassId) (q : Nat → Nat) (Y : St) (a0 a1 a2 : Int) : CtI l D y yX4_draw cX4_draw 6 (some .int) (rmk 1) [.ref (q 0), .int (iz a0), .int (iz a1), .int (iz a2)] (wM y q) Y (fX4_draw Y a0 a1 a2) := by
  refine ctI_of (own := RX4) rfl (by decide) (cat1 rfl) rfl (fun X hl hX => ?_)
  subst hl
  show GF X cX4_draw D (0, 0) (QI X D y (wM y q)) (fX4_draw Y a0 a1 a2) 0 [some (.ref (q 0)), some (.int (iz a0)), some (.int (iz a1)), some (.int (iz a2)), none, none] [] (wM y q Y)
  unfold fX4_draw
  refine g_iload_n hX dX4_draw_0 (rfl : 0 + 1 = 1) rfl ?_
  refine g_iconst hX dX4_draw_1 (rfl : 1 + 1 = 2) ?_
  refine g_sipush hX dX4_draw_2 (by decide) (rfl : 2 + 3 = 5) ?_
  refine g_callp hX (kX4_in _ _ _ _ _ _) mw_X4_69 (by decide) rfl rfl (Nat.le_of_ble_eq_true rfl) dX4_draw_5 (rfl : 5 + 3 = 8) (fun r1 => ?_)
  refine g_if_eq (tgt := 21) hX dX4_draw_8 (by decide) (rfl : 8 + 3 = 11) ?_ ?_
  · refine g_drop (lv' := [some (.ref (q 0)), none, some (.int (iz a1)), some (.int (iz a2)), none, none]) 1 rfl ?_
    refine g_drop (lv' := [some (.ref (q 0)), none, none, some (.int (iz a2)), none, none]) 2 rfl ?_
    refine g_drop (lv' := [some (.ref (q 0)), none, none, none, none, none]) 3 rfl ?_
    exact wX4_draw_21 hX  Y
  · refine g_iload_n hX dX4_draw_11 (rfl : 11 + 1 = 12) rfl ?_
    refine g_iconst hX dX4_draw_12 (rfl : 12 + 1 = 13) ?_
    refine g_bipush hX dX4_draw_13 (by decide) (rfl : 13 + 2 = 15) ?_
    refine g_callp hX (kX4_in _ _ _ _ _ _) mw_X4_69 (by decide) rfl rfl (Nat.le_of_ble_eq_true rfl) dX4_draw_15 (rfl : 15 + 3 = 18) (fun r2 => ?_)
    refine g_if_ne (tgt := 23) hX dX4_draw_18 (by decide) (rfl : 18 + 3 = 21) ?_ ?_
    · refine g_aload_n hX dX4_draw_23 (rfl : 23 + 1 = 24) rfl ?_
      refine ge_M_X4_73_M hX dX4_draw_24 (rfl : 24 + 3 = 27) ?_
      refine g_iload_n hX dX4_draw_27 (rfl : 27 + 1 = 28) rfl ?_
      refine g_iadd hX dX4_draw_28 (rfl : 28 + 1 = 29) ?_
      refine g_sipush hX dX4_draw_29 (by decide) (rfl : 29 + 3 = 32) ?_
      refine g_icmp_le (tgt := 38) hX dX4_draw_32 (by decide) (rfl : 32 + 3 = 35) ?_ ?_
      · refine g_iload_n hX dX4_draw_38 (rfl : 38 + 1 = 39) rfl ?_
        refine g_istore (lv' := fun x3 => [some (.ref (q 0)), some (.int (iz a0)), some (.int (iz a1)), some (.int (iz a2)), some (.int (iz x3)), none]) hX dX4_draw_39 (rfl : 39 + 2 = 41) rfl (fun _ => rfl) (fun x3 => ?_)
        refine g_aload_n hX dX4_draw_41 (rfl : 41 + 1 = 42) rfl ?_
        refine g_iconst hX dX4_draw_42 (rfl : 42 + 1 = 43) ?_
        refine pu_M_X4_81_M hX dX4_draw_43 (rfl : 43 + 3 = 46) (fun Y4 => ?_)
        refine g_iconst hX dX4_draw_46 (rfl : 46 + 1 = 47) ?_
        refine g_istore (lv' := fun x5 => [some (.ref (q 0)), some (.int (iz a0)), some (.int (iz a1)), some (.int (iz a2)), some (.int (iz x3)), some (.int (iz x5))]) hX dX4_draw_47 (rfl : 47 + 2 = 49) rfl (fun _ => rfl) (fun x5 => ?_)
        refine g_drop (lv' := [some (.ref (q 0)), some (.int (iz a0)), some (.int (iz a1)), none, some (.int (iz x3)), some (.int (iz x5))]) 3 rfl ?_
        exact wX4_draw_49 hX FU a0 a1 x3 x5 Y4
      · refine g_bipush hX dX4_draw_35 (by decide) (rfl : 35 + 2 = 37) ?_
        exact g_iret hX dX4_draw_37
    · refine g_drop (lv' := [some (.ref (q 0)), none, some (.int (iz a1)), some (.int (iz a2)), none, none]) 1 rfl ?_
      refine g_drop (lv' := [some (.ref (q 0)), none, none, some (.int (iz a2)), none, none]) 2 rfl ?_
      refine g_drop (lv' := [some (.ref (q 0)), none, none, none, none, none]) 3 rfl ?_
      exact wX4_draw_21 hX  Y
set_option maxRecDepth 100000 in
theorem wX4_change_15 {X : Cx} {D : va_G} {y : ClassId × ClassId × ClassId} {q : Nat → Nat} (hX : OKX X cX4_change RX4 (rmk 2) (some .int) D y) (Y : St) : GF X cX4_change D (0, 0) (QI X D y (wM y q)) (fX4_change_j15  Y) 15 [some (.ref (q 0)), none, none] [] (wM y q Y) := by
  unfold fX4_change_j15
  refine g_iconst hX dX4_change_15 (rfl : 15 + 1 = 16) ?_
  exact g_iret hX dX4_change_16
set_option maxRecDepth 100000 in
theorem kX4_change (l : Launch) (D : va_G) (y : ClassId × ClassId × ClassId) (q : Nat → Nat) (Y : St) (a0 a1 : Int) : CtI l D y yX4_change cX4_change 3 (some .int) (rmk 2) [.ref (q 0), .int (iz a0), .int (iz a1)] (wM y q) Y (fX4_change Y a0 a1) := by
  refine ctI_of (own := RX4) rfl (by decide) (cat1 rfl) rfl (fun X hl hX => ?_)
  subst hl
  show GF X cX4_change D (0, 0) (QI X D y (wM y q)) (fX4_change Y a0 a1) 0 [some (.ref (q 0)), some (.int (iz a0)), some (.int (iz a1))] [] (wM y q Y)
  unfold fX4_change
  refine g_aload_n hX dX4_change_0 (rfl : 0 + 1 = 1) rfl ?_
  refine g_iload_n hX dX4_change_1 (rfl : 1 + 1 = 2) rfl ?_
  refine ci_MM hX (kX4_isAsking _ _ _ (q) _ _) mw_X4_90 (by decide) rfl rfl (Nat.le_of_ble_eq_true rfl) dX4_change_2 (rfl : 2 + 3 = 5) (fun r2 Y1 => ?_)
  refine g_if_eq (tgt := 15) hX dX4_change_5 (by decide) (rfl : 5 + 3 = 8) ?_ ?_
  · refine g_drop (lv' := [some (.ref (q 0)), none, some (.int (iz a1))]) 1 rfl ?_
    refine g_drop (lv' := [some (.ref (q 0)), none, none]) 2 rfl ?_
    exact wX4_change_15 hX  Y1
  · refine g_iload_n hX dX4_change_8 (rfl : 8 + 1 = 9) rfl ?_
    refine g_callp hX (kX4_isThing _ _ _ _) mw_X4_77 (by decide) rfl rfl (Nat.le_of_ble_eq_true rfl) dX4_change_9 (rfl : 9 + 3 = 12) (fun r3 => ?_)
    refine g_if_ne (tgt := 17) hX dX4_change_12 (by decide) (rfl : 12 + 3 = 15) ?_ ?_
    · refine g_aload_n hX dX4_change_17 (rfl : 17 + 1 = 18) rfl ?_
      refine g_iconst hX dX4_change_18 (rfl : 18 + 1 = 19) ?_
      refine pu_M_X4_81_M hX dX4_change_19 (rfl : 19 + 3 = 22) (fun Y4 => ?_)
      refine g_aload_n hX dX4_change_22 (rfl : 22 + 1 = 23) rfl ?_
      refine ge_M_X4_13_M hX dX4_change_23 (rfl : 23 + 3 = 26) ?_
      refine g_iload_n hX dX4_change_26 (rfl : 26 + 1 = 27) rfl ?_
      refine g_iload_n hX dX4_change_27 (rfl : 27 + 1 = 28) rfl ?_
      refine as_M_M_1 hX dX4_change_28 (rfl : 28 + 1 = 29) (fun Y5 => ?_)
      refine g_iconst hX dX4_change_29 (rfl : 29 + 1 = 30) ?_
      exact g_iret hX dX4_change_30
    · refine g_drop (lv' := [some (.ref (q 0)), none, some (.int (iz a1))]) 1 rfl ?_
      refine g_drop (lv' := [some (.ref (q 0)), none, none]) 2 rfl ?_
      exact wX4_change_15 hX  Y1
set_option maxRecDepth 100000 in
theorem kX4_cut (l : Launch) (D : va_G) (y : ClassId × ClassId × ClassId) (q : Nat → Nat) (Y : St) (a0 : Int) : CtI l D y yX4_cut cX4_cut 2 (some .int) (rmk 1) [.ref (q 0), .int (iz a0)] (wM y q) Y (fX4_cut Y a0) := by
  refine ctI_of (own := RX4) rfl (by decide) (cat1 rfl) rfl (fun X hl hX => ?_)
  subst hl
  show GF X cX4_cut D (0, 0) (QI X D y (wM y q)) (fX4_cut Y a0) 0 [some (.ref (q 0)), some (.int (iz a0))] [] (wM y q Y)
  unfold fX4_cut
  refine g_iload_n hX dX4_cut_0 (rfl : 0 + 1 = 1) rfl ?_
  refine g_iconst hX dX4_cut_1 (rfl : 1 + 1 = 2) ?_
  refine g_aload_n hX dX4_cut_2 (rfl : 2 + 1 = 3) rfl ?_
  refine ge_M_X4_73_M hX dX4_cut_3 (rfl : 3 + 3 = 6) ?_
  refine g_callp hX (kX4_in _ _ _ _ _ _) mw_X4_69 (by decide) rfl rfl (Nat.le_of_ble_eq_true rfl) dX4_cut_6 (rfl : 6 + 3 = 9) (fun r1 => ?_)
  refine g_if_ne (tgt := 14) hX dX4_cut_9 (by decide) (rfl : 9 + 3 = 12) ?_ ?_
  · refine g_aload_n hX dX4_cut_14 (rfl : 14 + 1 = 15) rfl ?_
    refine g_iconst hX dX4_cut_15 (rfl : 15 + 1 = 16) ?_
    refine pu_M_X4_81_M hX dX4_cut_16 (rfl : 16 + 3 = 19) (fun Y2 => ?_)
    refine g_aload_n hX dX4_cut_19 (rfl : 19 + 1 = 20) rfl ?_
    refine g_iload_n hX dX4_cut_20 (rfl : 20 + 1 = 21) rfl ?_
    refine pu_M_X4_73_M hX dX4_cut_21 (rfl : 21 + 3 = 24) (fun Y3 => ?_)
    refine g_iload_n hX dX4_cut_24 (rfl : 24 + 1 = 25) rfl ?_
    exact g_iret hX dX4_cut_25
  · refine g_iconst hX dX4_cut_12 (rfl : 12 + 1 = 13) ?_
    exact g_iret hX dX4_cut_13
set_option maxRecDepth 100000 in
theorem wX4_asked_18 {X : Cx} {D : va_G} {y : ClassId × ClassId × ClassId} {q : Nat → Nat} (hX : OKX X cX4_asked RX4 (rmk 2) (some .int) D y) (s0 : Int) (Y : St) : GF X cX4_asked D (0, 0) (QI X D y (wM y q)) (fX4_asked_j18 s0 Y) 18 [some (.ref (q 0)), none] [.int (iz s0)] (wM y q Y) := by
  unfold fX4_asked_j18
  exact g_iret hX dX4_asked_18
set_option maxRecDepth 100000 in
theorem kX4_asked (l : Launch) (D : va_G) (y : ClassId × ClassId × ClassId) (q : Nat → Nat) (Y : St) (a0 : Int) : CtI l D y yX4_asked cX4_asked 2 (some .int) (rmk 2) [.ref (q 0), .int (iz a0)] (wM y q) Y (fX4_asked Y a0) := by
  refine ctI_of (own := RX4) rfl (by decide) (cat1 rfl) rfl (fun X hl hX => ?_)
  subst hl
  show GF X cX4_asked D (0, 0) (QI X D y (wM y q)) (fX4_asked Y a0) 0 [some (.ref (q 0)), some (.int (iz a0))] [] (wM y q Y)
  unfold fX4_asked
  refine g_aload_n hX dX4_asked_0 (rfl : 0 + 1 = 1) rfl ?_
  refine g_iload_n hX dX4_asked_1 (rfl : 1 + 1 = 2) rfl ?_
  refine ci_MM hX (kX4_isAsking _ _ _ (q) _ _) mw_X4_90 (by decide) rfl rfl (Nat.le_of_ble_eq_true rfl) dX4_asked_2 (rfl : 2 + 3 = 5) (fun r2 Y1 => ?_)
  refine g_if_eq (tgt := 17) hX dX4_asked_5 (by decide) (rfl : 5 + 3 = 8) ?_ ?_
  · refine g_iconst hX dX4_asked_17 (rfl : 17 + 1 = 18) ?_
    refine g_drop (lv' := [some (.ref (q 0)), none]) 1 rfl ?_
    exact wX4_asked_18 hX ((-1)) Y1
  · refine g_aload_n hX dX4_asked_8 (rfl : 8 + 1 = 9) rfl ?_
    refine ge_M_X4_13_M hX dX4_asked_9 (rfl : 9 + 3 = 12) ?_
    refine g_iload_n hX dX4_asked_12 (rfl : 12 + 1 = 13) rfl ?_
    refine al_M_M_1 hX dX4_asked_13 (rfl : 13 + 1 = 14) ?_
    refine g_goto (pc' := 18) hX dX4_asked_14 (by decide) ?_
    refine g_drop (lv' := [some (.ref (q 0)), none]) 1 rfl ?_
    exact wX4_asked_18 hX ((Y1.2 1 (Int.toNat a0))) Y1
set_option maxRecDepth 100000 in
theorem wX4_unlike_69 {X : Cx} {D : va_G} {y : ClassId × ClassId × ClassId} {q : Nat → Nat} (hX : OKX X cX4_unlike RX4 (rmk 0) (some .int) D y) (v1 : Int) (Y : St) : GF X cX4_unlike D (0, 0) (QI X D y (wM y q)) (fX4_unlike_j69 v1 Y) 69 [some (.ref (q 0)), some (.int (iz v1)), none, none, none] [] (wM y q Y) := by
  unfold fX4_unlike_j69
  refine g_iload_n hX dX4_unlike_69 (rfl : 69 + 1 = 70) rfl ?_
  exact g_iret hX dX4_unlike_70
set_option maxRecDepth 100000 in
theorem wX4_unlike_61 {X : Cx} {D : va_G} {y : ClassId × ClassId × ClassId} {q : Nat → Nat} (hX : OKX X cX4_unlike RX4 (rmk 0) (some .int) D y) {k_4 : Int → Int → (St) → Option (Int × (St))} (hk_4 : ∀ (v1 v2 : Int) (Y : St), GF X cX4_unlike D (0, 0) (QI X D y (wM y q)) (k_4 v1 v2 Y) 4 [some (.ref (q 0)), some (.int (iz v1)), some (.int (iz v2)), none, none] [] (wM y q Y)) (v2 s0 s1 : Int) (Y : St) : GF X cX4_unlike D (0, 0) (QI X D y (wM y q)) (fX4_unlike_j61 k_4 v2 s0 s1 Y) 61 [some (.ref (q 0)), none, some (.int (iz v2)), none, none] [.int (iz s0), .int (iz s1)] (wM y q Y) := by
  unfold fX4_unlike_j61
  refine g_iadd hX dX4_unlike_61 (rfl : 61 + 1 = 62) ?_
  refine g_istore_n (lv' := fun x101 => [some (.ref (q 0)), some (.int (iz x101)), some (.int (iz v2)), none, none]) hX dX4_unlike_62 (rfl : 62 + 1 = 63) rfl (fun _ => rfl) (fun x101 => ?_)
  refine g_iinc (lv' := fun x102 => [some (.ref (q 0)), some (.int (iz x101)), some (.int (iz x102)), none, none]) hX dX4_unlike_63 (rfl : 63 + 3 = 66) rfl (fun _ => rfl) (fun x102 => ?_)
  refine g_goto (pc' := 4) hX dX4_unlike_66 (by decide) ?_
  exact hk_4 x101 x102 Y
set_option maxRecDepth 100000 in
theorem wX4_unlike_51 {X : Cx} {D : va_G} {y : ClassId × ClassId × ClassId} {q : Nat → Nat} (hX : OKX X cX4_unlike RX4 (rmk 0) (some .int) D y) {k_4 : Int → Int → (St) → Option (Int × (St))} (hk_4 : ∀ (v1 v2 : Int) (Y : St), GF X cX4_unlike D (0, 0) (QI X D y (wM y q)) (k_4 v1 v2 Y) 4 [some (.ref (q 0)), some (.int (iz v1)), some (.int (iz v2)), none, none] [] (wM y q Y)) (v1 v2 v3 : Int) (Y : St) : GF X cX4_unlike D (0, 0) (QI X D y (wM y q)) (fX4_unlike_j51 k_4 v1 v2 v3 Y) 51 [some (.ref (q 0)), some (.int (iz v1)), some (.int (iz v2)), some (.int (iz v3)), none] [] (wM y q Y) := by
  unfold fX4_unlike_j51
  refine g_iload_n hX dX4_unlike_51 (rfl : 51 + 1 = 52) rfl ?_
  refine g_iload_n hX dX4_unlike_52 (rfl : 52 + 1 = 53) rfl ?_
  refine g_if_eq (tgt := 60) hX dX4_unlike_53 (by decide) (rfl : 53 + 3 = 56) ?_ ?_
  · refine g_iconst hX dX4_unlike_60 (rfl : 60 + 1 = 61) ?_
    refine g_drop (lv' := [some (.ref (q 0)), none, some (.int (iz v2)), some (.int (iz v3)), none]) 1 rfl ?_
    refine g_drop (lv' := [some (.ref (q 0)), none, some (.int (iz v2)), none, none]) 3 rfl ?_
    exact wX4_unlike_61 hX hk_4 v2 0 v1 Y
  · refine g_iconst hX dX4_unlike_56 (rfl : 56 + 1 = 57) ?_
    refine g_goto (pc' := 61) hX dX4_unlike_57 (by decide) ?_
    refine g_drop (lv' := [some (.ref (q 0)), none, some (.int (iz v2)), some (.int (iz v3)), none]) 1 rfl ?_
    refine g_drop (lv' := [some (.ref (q 0)), none, some (.int (iz v2)), none, none]) 3 rfl ?_
    exact wX4_unlike_61 hX hk_4 v2 1 v1 Y
set_option maxRecDepth 100000 in
theorem wX4_unlike_44 {X : Cx} {D : va_G} {y : ClassId × ClassId × ClassId} {q : Nat → Nat} (hX : OKX X cX4_unlike RX4 (rmk 0) (some .int) D y) {k_4 : Int → Int → (St) → Option (Int × (St))} {k_15 : Int → Int → Int → Int → (St) → Option (Int × (St))} (hk_4 : ∀ (v1 v2 : Int) (Y : St), GF X cX4_unlike D (0, 0) (QI X D y (wM y q)) (k_4 v1 v2 Y) 4 [some (.ref (q 0)), some (.int (iz v1)), some (.int (iz v2)), none, none] [] (wM y q Y)) (hk_15 : ∀ (v1 v2 v3 v4 : Int) (Y : St), GF X cX4_unlike D (0, 0) (QI X D y (wM y q)) (k_15 v1 v2 v3 v4 Y) 15 [some (.ref (q 0)), some (.int (iz v1)), some (.int (iz v2)), some (.int (iz v3)), some (.int (iz v4))] [] (wM y q Y)) (v1 v2 v4 s0 : Int) (Y : St) : GF X cX4_unlike D (0, 0) (QI X D y (wM y q)) (fX4_unlike_j44 k_4 k_15 v1 v2 v4 s0 Y) 44 [some (.ref (q 0)), some (.int (iz v1)), some (.int (iz v2)), none, some (.int (iz v4))] [.int (iz s0)] (wM y q Y) := by
  unfold fX4_unlike_j44
  refine g_istore_n (lv' := fun x103 => [some (.ref (q 0)), some (.int (iz v1)), some (.int (iz v2)), some (.int (iz x103)), some (.int (iz v4))]) hX dX4_unlike_44 (rfl : 44 + 1 = 45) rfl (fun _ => rfl) (fun x103 => ?_)
  refine g_iinc (lv' := fun x104 => [some (.ref (q 0)), some (.int (iz v1)), some (.int (iz v2)), some (.int (iz x103)), some (.int (iz x104))]) hX dX4_unlike_45 (rfl : 45 + 3 = 48) rfl (fun _ => rfl) (fun x104 => ?_)
  refine g_goto (pc' := 15) hX dX4_unlike_48 (by decide) ?_
  exact hk_15 v1 v2 x103 x104 Y
set_option maxRecDepth 100000 in
theorem wX4_unlike_39 {X : Cx} {D : va_G} {y : ClassId × ClassId × ClassId} {q : Nat → Nat} (hX : OKX X cX4_unlike RX4 (rmk 0) (some .int) D y) {k_4 : Int → Int → (St) → Option (Int × (St))} {k_15 : Int → Int → Int → Int → (St) → Option (Int × (St))} (hk_4 : ∀ (v1 v2 : Int) (Y : St), GF X cX4_unlike D (0, 0) (QI X D y (wM y q)) (k_4 v1 v2 Y) 4 [some (.ref (q 0)), some (.int (iz v1)), some (.int (iz v2)), none, none] [] (wM y q Y)) (hk_15 : ∀ (v1 v2 v3 v4 : Int) (Y : St), GF X cX4_unlike D (0, 0) (QI X D y (wM y q)) (k_15 v1 v2 v3 v4 Y) 15 [some (.ref (q 0)), some (.int (iz v1)), some (.int (iz v2)), some (.int (iz v3)), some (.int (iz v4))] [] (wM y q Y)) (v1 v2 v4 : Int) (Y : St) : GF X cX4_unlike D (0, 0) (QI X D y (wM y q)) (fX4_unlike_j39 k_4 k_15 v1 v2 v4 Y) 39 [some (.ref (q 0)), some (.int (iz v1)), some (.int (iz v2)), none, some (.int (iz v4))] [] (wM y q Y) := by
  unfold fX4_unlike_j39
  refine g_iconst hX dX4_unlike_39 (rfl : 39 + 1 = 40) ?_
  refine g_goto (pc' := 44) hX dX4_unlike_40 (by decide) ?_
  exact wX4_unlike_44 hX hk_4 hk_15 v1 v2 v4 1 Y
set_option maxRecDepth 100000 in
theorem wX4_unlike_15 {X : Cx} {D : va_G} {y : ClassId × ClassId × ClassId} {q : Nat → Nat} (hX : OKX X cX4_unlike RX4 (rmk 0) (some .int) D y) {k_4 : Int → Int → (St) → Option (Int × (St))} (hk_4 : ∀ (v1 v2 : Int) (Y : St), GF X cX4_unlike D (0, 0) (QI X D y (wM y q)) (k_4 v1 v2 Y) 4 [some (.ref (q 0)), some (.int (iz v1)), some (.int (iz v2)), none, none] [] (wM y q Y)) : ∀ (n : Nat) (v1 v2 v3 v4 : Int) (Y : St), GF X cX4_unlike D (0, 0) (QI X D y (wM y q)) (fX4_unlike_l15 k_4 n v1 v2 v3 v4 Y) 15 [some (.ref (q 0)), some (.int (iz v1)), some (.int (iz v2)), some (.int (iz v3)), some (.int (iz v4))] [] (wM y q Y) := by
  intro n
  induction n with
  | zero => intro v1 v2 v3 v4 Y; exact g_none
  | succ n hk_15 =>
    intro v1 v2 v3 v4 Y
    unfold fX4_unlike_l15
    refine g_iload hX dX4_unlike_15 (rfl : 15 + 2 = 17) rfl ?_
    refine g_aload_n hX dX4_unlike_17 (rfl : 17 + 1 = 18) rfl ?_
    refine ge_M_X4_73_M hX dX4_unlike_18 (rfl : 18 + 3 = 21) ?_
    refine g_icmp_ge (tgt := 51) hX dX4_unlike_21 (by decide) (rfl : 21 + 3 = 24) ?_ ?_
    · refine g_drop (lv' := [some (.ref (q 0)), some (.int (iz v1)), some (.int (iz v2)), some (.int (iz v3)), none]) 4 rfl ?_
      exact wX4_unlike_51 hX hk_4 v1 v2 v3 Y
    · refine g_iload_n hX dX4_unlike_24 (rfl : 24 + 1 = 25) rfl ?_
      refine g_if_ne (tgt := 39) hX dX4_unlike_25 (by decide) (rfl : 25 + 3 = 28) ?_ ?_
      · refine g_drop (lv' := [some (.ref (q 0)), some (.int (iz v1)), some (.int (iz v2)), none, some (.int (iz v4))]) 3 rfl ?_
        exact wX4_unlike_39 hX hk_4 hk_15 v1 v2 v4 Y
      · refine g_aload_n hX dX4_unlike_28 (rfl : 28 + 1 = 29) rfl ?_
        refine ge_M_X4_13_M hX dX4_unlike_29 (rfl : 29 + 3 = 32) ?_
        refine g_iload hX dX4_unlike_32 (rfl : 32 + 2 = 34) rfl ?_
        refine al_M_M_1 hX dX4_unlike_34 (rfl : 34 + 1 = 35) ?_
        refine g_iload_n hX dX4_unlike_35 (rfl : 35 + 1 = 36) rfl ?_
        refine g_icmp_ne (tgt := 43) hX dX4_unlike_36 (by decide) (rfl : 36 + 3 = 39) ?_ ?_
        · refine g_iconst hX dX4_unlike_43 (rfl : 43 + 1 = 44) ?_
          refine g_drop (lv' := [some (.ref (q 0)), some (.int (iz v1)), some (.int (iz v2)), none, some (.int (iz v4))]) 3 rfl ?_
          exact wX4_unlike_44 hX hk_4 hk_15 v1 v2 v4 0 Y
        · refine g_drop (lv' := [some (.ref (q 0)), some (.int (iz v1)), some (.int (iz v2)), none, some (.int (iz v4))]) 3 rfl ?_
          exact wX4_unlike_39 hX hk_4 hk_15 v1 v2 v4 Y
set_option maxRecDepth 100000 in
theorem wX4_unlike_4 {X : Cx} {D : va_G} {y : ClassId × ClassId × ClassId} {q : Nat → Nat} (hX : OKX X cX4_unlike RX4 (rmk 0) (some .int) D y) : ∀ (n : Nat) (v1 v2 : Int) (Y : St), GF X cX4_unlike D (0, 0) (QI X D y (wM y q)) (fX4_unlike_l4 n v1 v2 Y) 4 [some (.ref (q 0)), some (.int (iz v1)), some (.int (iz v2)), none, none] [] (wM y q Y) := by
  intro n
  induction n with
  | zero => intro v1 v2 Y; exact g_none
  | succ n hk_4 =>
    intro v1 v2 Y
    unfold fX4_unlike_l4
    refine g_iload_n hX dX4_unlike_4 (rfl : 4 + 1 = 5) rfl ?_
    refine g_bipush hX dX4_unlike_5 (by decide) (rfl : 5 + 2 = 7) ?_
    refine g_icmp_ge (tgt := 69) hX dX4_unlike_7 (by decide) (rfl : 7 + 3 = 10) ?_ ?_
    · refine g_drop (lv' := [some (.ref (q 0)), some (.int (iz v1)), none, none, none]) 2 rfl ?_
      exact wX4_unlike_69 hX v1 Y
    · refine g_iconst hX dX4_unlike_10 (rfl : 10 + 1 = 11) ?_
      refine g_istore_n (lv' := fun x105 => [some (.ref (q 0)), some (.int (iz v1)), some (.int (iz v2)), some (.int (iz x105)), none]) hX dX4_unlike_11 (rfl : 11 + 1 = 12) rfl (fun _ => rfl) (fun x105 => ?_)
      refine g_iconst hX dX4_unlike_12 (rfl : 12 + 1 = 13) ?_
      refine g_istore (lv' := fun x106 => [some (.ref (q 0)), some (.int (iz v1)), some (.int (iz v2)), some (.int (iz x105)), some (.int (iz x106))]) hX dX4_unlike_13 (rfl : 13 + 2 = 15) rfl (fun _ => rfl) (fun x106 => ?_)
      exact wX4_unlike_15 hX hk_4 FU v1 v2 x105 x106 Y
set_option maxRecDepth 100000 in
theorem kX4_unlike (l : Launch) (D : va_G) (y : ClassId × ClassId × ClassId) (q : Nat → Nat) (Y : St) : CtI l D y yX4_unlike cX4_unlike 5 (some .int) (rmk 0) [.ref (q 0)] (wM y q) Y (fX4_unlike Y) := by
  refine ctI_of (own := RX4) rfl (by decide) (cat1 rfl) rfl (fun X hl hX => ?_)
  subst hl
  show GF X cX4_unlike D (0, 0) (QI X D y (wM y q)) (fX4_unlike Y) 0 [some (.ref (q 0)), none, none, none, none] [] (wM y q Y)
  unfold fX4_unlike
  refine g_iconst hX dX4_unlike_0 (rfl : 0 + 1 = 1) ?_
  refine g_istore_n (lv' := fun x1 => [some (.ref (q 0)), some (.int (iz x1)), none, none, none]) hX dX4_unlike_1 (rfl : 1 + 1 = 2) rfl (fun _ => rfl) (fun x1 => ?_)
  refine g_iconst hX dX4_unlike_2 (rfl : 2 + 1 = 3) ?_
  refine g_istore_n (lv' := fun x2 => [some (.ref (q 0)), some (.int (iz x1)), some (.int (iz x2)), none, none]) hX dX4_unlike_3 (rfl : 3 + 1 = 4) rfl (fun _ => rfl) (fun x2 => ?_)
  exact wX4_unlike_4 hX FU x1 x2 Y
set_option maxRecDepth 100000 in
theorem wX4_allPrices_32 {X : Cx} {D : va_G} {y : ClassId × ClassId × ClassId} {q : Nat → Nat} (hX : OKX X cX4_allPrices RX4 (rmk 0) (some .int) D y) (v1 : Int) (Y : St) : GF X cX4_allPrices D (0, 0) (QI X D y (wM y q)) (fX4_allPrices_j32 v1 Y) 32 [some (.ref (q 0)), some (.int (iz v1)), none] [] (wM y q Y) := by
  unfold fX4_allPrices_j32
  refine g_iload_n hX dX4_allPrices_32 (rfl : 32 + 1 = 33) rfl ?_
  exact g_iret hX dX4_allPrices_33
set_option maxRecDepth 100000 in
theorem wX4_allPrices_4 {X : Cx} {D : va_G} {y : ClassId × ClassId × ClassId} {q : Nat → Nat} (hX : OKX X cX4_allPrices RX4 (rmk 0) (some .int) D y) : ∀ (n : Nat) (v1 v2 : Int) (Y : St), GF X cX4_allPrices D (0, 0) (QI X D y (wM y q)) (fX4_allPrices_l4 n v1 v2 Y) 4 [some (.ref (q 0)), some (.int (iz v1)), some (.int (iz v2))] [] (wM y q Y) := by
  intro n
  induction n with
  | zero => intro v1 v2 Y; exact g_none
  | succ n hk_4 =>
    intro v1 v2 Y
    unfold fX4_allPrices_l4
    refine g_iload_n hX dX4_allPrices_4 (rfl : 4 + 1 = 5) rfl ?_
    refine g_aload_n hX dX4_allPrices_5 (rfl : 5 + 1 = 6) rfl ?_
    refine ge_M_X4_73_M hX dX4_allPrices_6 (rfl : 6 + 3 = 9) ?_
    refine g_icmp_ge (tgt := 32) hX dX4_allPrices_9 (by decide) (rfl : 9 + 3 = 12) ?_ ?_
    · refine g_drop (lv' := [some (.ref (q 0)), some (.int (iz v1)), none]) 2 rfl ?_
      exact wX4_allPrices_32 hX v1 Y
    · refine g_iload_n hX dX4_allPrices_12 (rfl : 12 + 1 = 13) rfl ?_
      refine g_aload_n hX dX4_allPrices_13 (rfl : 13 + 1 = 14) rfl ?_
      refine ge_M_X4_7_M hX dX4_allPrices_14 (rfl : 14 + 3 = 17) ?_
      refine g_aload_n hX dX4_allPrices_17 (rfl : 17 + 1 = 18) rfl ?_
      refine ge_M_X4_13_M hX dX4_allPrices_18 (rfl : 18 + 3 = 21) ?_
      refine g_iload_n hX dX4_allPrices_21 (rfl : 21 + 1 = 22) rfl ?_
      refine al_M_M_1 hX dX4_allPrices_22 (rfl : 22 + 1 = 23) ?_
      refine al_M_M_0 hX dX4_allPrices_23 (rfl : 23 + 1 = 24) ?_
      refine g_iadd hX dX4_allPrices_24 (rfl : 24 + 1 = 25) ?_
      refine g_istore_n (lv' := fun x101 => [some (.ref (q 0)), some (.int (iz x101)), some (.int (iz v2))]) hX dX4_allPrices_25 (rfl : 25 + 1 = 26) rfl (fun _ => rfl) (fun x101 => ?_)
      refine g_iinc (lv' := fun x102 => [some (.ref (q 0)), some (.int (iz x101)), some (.int (iz x102))]) hX dX4_allPrices_26 (rfl : 26 + 3 = 29) rfl (fun _ => rfl) (fun x102 => ?_)
      refine g_goto (pc' := 4) hX dX4_allPrices_29 (by decide) ?_
      exact hk_4 x101 x102 Y
set_option maxRecDepth 100000 in
theorem kX4_allPrices (l : Launch) (D : va_G) (y : ClassId × ClassId × ClassId) (q : Nat → Nat) (Y : St) : CtI l D y yX4_allPrices cX4_allPrices 3 (some .int) (rmk 0) [.ref (q 0)] (wM y q) Y (fX4_allPrices Y) := by
  refine ctI_of (own := RX4) rfl (by decide) (cat1 rfl) rfl (fun X hl hX => ?_)
  subst hl
  show GF X cX4_allPrices D (0, 0) (QI X D y (wM y q)) (fX4_allPrices Y) 0 [some (.ref (q 0)), none, none] [] (wM y q Y)
  unfold fX4_allPrices
  refine g_iconst hX dX4_allPrices_0 (rfl : 0 + 1 = 1) ?_
  refine g_istore_n (lv' := fun x1 => [some (.ref (q 0)), some (.int (iz x1)), none]) hX dX4_allPrices_1 (rfl : 1 + 1 = 2) rfl (fun _ => rfl) (fun x1 => ?_)
  refine g_iconst hX dX4_allPrices_2 (rfl : 2 + 1 = 3) ?_
  refine g_istore_n (lv' := fun x2 => [some (.ref (q 0)), some (.int (iz x1)), some (.int (iz x2))]) hX dX4_allPrices_3 (rfl : 3 + 1 = 4) rfl (fun _ => rfl) (fun x2 => ?_)
  exact wX4_allPrices_4 hX FU x1 x2 Y
set_option maxRecDepth 100000 in
theorem kX4_many (l : Launch) (D : va_G) (y : ClassId × ClassId × ClassId) (q : Nat → Nat) (Y : St) (a0 : Int) : CtI l D y yX4_many cX4_many 2 (some .int) (rmk 1) [.ref (q 0), .int (iz a0)] (wM y q) Y (fX4_many Y a0) := by
  refine ctI_of (own := RX4) rfl (by decide) (cat1 rfl) rfl (fun X hl hX => ?_)
  subst hl
  show GF X cX4_many D (0, 0) (QI X D y (wM y q)) (fX4_many Y a0) 0 [some (.ref (q 0)), some (.int (iz a0))] [] (wM y q Y)
  unfold fX4_many
  refine g_iload_n hX dX4_many_0 (rfl : 0 + 1 = 1) rfl ?_
  refine g_ite (fun c1 => ?_) (fun c1 => ?_)
  · refine g_tab (tgt := 32) hX c1 dX4_many_1 (by decide) (by decide) rfl (by decide) ?_
    refine g_aload_n hX dX4_many_32 (rfl : 32 + 1 = 33) rfl ?_
    refine ge_M_X4_73_M hX dX4_many_33 (rfl : 33 + 3 = 36) ?_
    exact g_iret hX dX4_many_36
  refine g_ite (fun c2 => ?_) (fun c2 => ?_)
  · refine g_tab (tgt := 37) hX c2 dX4_many_1 (by decide) (by decide) rfl (by decide) ?_
    refine g_aload_n hX dX4_many_37 (rfl : 37 + 1 = 38) rfl ?_
    refine ci_MM hX (kX4_unlike _ _ _ (q) _) mw_X4_93 (by decide) rfl rfl (Nat.le_of_ble_eq_true rfl) dX4_many_38 (rfl : 38 + 3 = 41) (fun r4 Y3 => ?_)
    exact g_iret hX dX4_many_41
  refine g_ite (fun c5 => ?_) (fun c5 => ?_)
  · refine g_tab (tgt := 42) hX c5 dX4_many_1 (by decide) (by decide) rfl (by decide) ?_
    refine g_aload_n hX dX4_many_42 (rfl : 42 + 1 = 43) rfl ?_
    refine ge_M_X4_97_M hX dX4_many_43 (rfl : 43 + 3 = 46) ?_
    exact g_iret hX dX4_many_46
  refine g_ite (fun c6 => ?_) (fun c6 => ?_)
  · refine g_tab (tgt := 47) hX c6 dX4_many_1 (by decide) (by decide) rfl (by decide) ?_
    refine g_aload_n hX dX4_many_47 (rfl : 47 + 1 = 48) rfl ?_
    refine ci_MM hX (kX4_allPrices _ _ _ (q) _) mw_X4_100 (by decide) rfl rfl (Nat.le_of_ble_eq_true rfl) dX4_many_48 (rfl : 48 + 3 = 51) (fun r8 Y7 => ?_)
    exact g_iret hX dX4_many_51
  refine g_tabD (tgt := 52) hX dX4_many_1 (by omega) (by decide) ?_
  refine g_iconst hX dX4_many_52 (rfl : 52 + 1 = 53) ?_
  exact g_iret hX dX4_many_53
set_option maxRecDepth 100000 in
theorem wX4_begin_37 {X : Cx} {D : va_G} {y : ClassId × ClassId × ClassId} {q : Nat → Nat} (hX : OKX X cX4_begin RX4 (rmk 0) none D y) : ∀ (n : Nat) (v3 : Int) (Y : St), GF X cX4_begin D (0, 0) (QV X D y (wM y q)) (fX4_begin_l37 n v3 Y) 37 [some (.ref (q 0)), none, none, some (.int (iz v3))] [] (wM y q Y) := by
  intro n
  induction n with
  | zero => intro v3 Y; exact g_none
  | succ n hk_37 =>
    intro v3 Y
    unfold fX4_begin_l37
    refine g_iload_n hX dX4_begin_37 (rfl : 37 + 1 = 38) rfl ?_
    refine g_bipush hX dX4_begin_38 (by decide) (rfl : 38 + 2 = 40) ?_
    refine g_icmp_ge (tgt := 91) hX dX4_begin_40 (by decide) (rfl : 40 + 3 = 43) ?_ ?_
    · exact g_vret hX dX4_begin_91
    · refine g_aload_n hX dX4_begin_43 (rfl : 43 + 1 = 44) rfl ?_
      refine ge_M_X4_28_M hX dX4_begin_44 (rfl : 44 + 3 = 47) ?_
      refine g_iload_n hX dX4_begin_47 (rfl : 47 + 1 = 48) rfl ?_
      refine g_iconst hX dX4_begin_48 (rfl : 48 + 1 = 49) ?_
      refine as_M_M_13 hX dX4_begin_49 (rfl : 49 + 1 = 50) (fun Y101 => ?_)
      refine g_aload_n hX dX4_begin_50 (rfl : 50 + 1 = 51) rfl ?_
      refine ge_M_X4_41_M hX dX4_begin_51 (rfl : 51 + 3 = 54) ?_
      refine g_iload_n hX dX4_begin_54 (rfl : 54 + 1 = 55) rfl ?_
      refine g_iconst hX dX4_begin_55 (rfl : 55 + 1 = 56) ?_
      refine as_M_M_17 hX dX4_begin_56 (rfl : 56 + 1 = 57) (fun Y102 => ?_)
      refine g_aload_n hX dX4_begin_57 (rfl : 57 + 1 = 58) rfl ?_
      refine ge_M_X4_47_M hX dX4_begin_58 (rfl : 58 + 3 = 61) ?_
      refine g_iload_n hX dX4_begin_61 (rfl : 61 + 1 = 62) rfl ?_
      refine g_iconst hX dX4_begin_62 (rfl : 62 + 1 = 63) ?_
      refine as_M_M_19 hX dX4_begin_63 (rfl : 63 + 1 = 64) (fun Y103 => ?_)
      refine g_aload_n hX dX4_begin_64 (rfl : 64 + 1 = 65) rfl ?_
      refine ge_M_X4_38_M hX dX4_begin_65 (rfl : 65 + 3 = 68) ?_
      refine g_iload_n hX dX4_begin_68 (rfl : 68 + 1 = 69) rfl ?_
      refine g_iconst hX dX4_begin_69 (rfl : 69 + 1 = 70) ?_
      refine as_M_M_16 hX dX4_begin_70 (rfl : 70 + 1 = 71) (fun Y104 => ?_)
      refine g_aload_n hX dX4_begin_71 (rfl : 71 + 1 = 72) rfl ?_
      refine ge_M_X4_53_M hX dX4_begin_72 (rfl : 72 + 3 = 75) ?_
      refine g_iload_n hX dX4_begin_75 (rfl : 75 + 1 = 76) rfl ?_
      refine g_iconst hX dX4_begin_76 (rfl : 76 + 1 = 77) ?_
      refine as_M_M_21 hX dX4_begin_77 (rfl : 77 + 1 = 78) (fun Y105 => ?_)
      refine g_aload_n hX dX4_begin_78 (rfl : 78 + 1 = 79) rfl ?_
      refine ge_M_X4_44_M hX dX4_begin_79 (rfl : 79 + 3 = 82) ?_
      refine g_iload_n hX dX4_begin_82 (rfl : 82 + 1 = 83) rfl ?_
      refine g_iconst hX dX4_begin_83 (rfl : 83 + 1 = 84) ?_
      refine as_M_M_18 hX dX4_begin_84 (rfl : 84 + 1 = 85) (fun Y106 => ?_)
      refine g_iinc (lv' := fun x107 => [some (.ref (q 0)), none, none, some (.int (iz x107))]) hX dX4_begin_85 (rfl : 85 + 3 = 88) rfl (fun _ => rfl) (fun x107 => ?_)
      refine g_goto (pc' := 37) hX dX4_begin_88 (by decide) ?_
      exact hk_37 x107 Y106
set_option maxRecDepth 100000 in
theorem kX4_begin (l : Launch) (D : va_G) (y : ClassId × ClassId × ClassId) (q : Nat → Nat) (Y : St) (a0 a1 : Int) : CtV l D y yX4_begin cX4_begin 4 (rmk 0) [.ref (q 0), .int (iz a0), .int (iz a1)] (wM y q) Y (fX4_begin Y a0 a1) := by
  refine ctV_of (own := RX4) rfl (by decide) (cat1 rfl) rfl (fun X hl hX => ?_)
  subst hl
  show GF X cX4_begin D (0, 0) (QV X D y (wM y q)) (fX4_begin Y a0 a1) 0 [some (.ref (q 0)), some (.int (iz a0)), some (.int (iz a1)), none] [] (wM y q Y)
  unfold fX4_begin
  refine g_aload_n hX dX4_begin_0 (rfl : 0 + 1 = 1) rfl ?_
  refine g_iload_n hX dX4_begin_1 (rfl : 1 + 1 = 2) rfl ?_
  refine pu_M_X4_103_M hX dX4_begin_2 (rfl : 2 + 3 = 5) (fun Y1 => ?_)
  refine g_aload_n hX dX4_begin_5 (rfl : 5 + 1 = 6) rfl ?_
  refine g_iload_n hX dX4_begin_6 (rfl : 6 + 1 = 7) rfl ?_
  refine pu_M_X4_106_M hX dX4_begin_7 (rfl : 7 + 3 = 10) (fun Y2 => ?_)
  refine g_aload_n hX dX4_begin_10 (rfl : 10 + 1 = 11) rfl ?_
  refine g_iconst hX dX4_begin_11 (rfl : 11 + 1 = 12) ?_
  refine pu_M_X4_109_M hX dX4_begin_12 (rfl : 12 + 3 = 15) (fun Y3 => ?_)
  refine g_aload_n hX dX4_begin_15 (rfl : 15 + 1 = 16) rfl ?_
  refine g_iconst hX dX4_begin_16 (rfl : 16 + 1 = 17) ?_
  refine pu_M_X4_112_M hX dX4_begin_17 (rfl : 17 + 3 = 20) (fun Y4 => ?_)
  refine g_aload_n hX dX4_begin_20 (rfl : 20 + 1 = 21) rfl ?_
  refine g_iconst hX dX4_begin_21 (rfl : 21 + 1 = 22) ?_
  refine pu_M_X4_115_M hX dX4_begin_22 (rfl : 22 + 3 = 25) (fun Y5 => ?_)
  refine g_aload_n hX dX4_begin_25 (rfl : 25 + 1 = 26) rfl ?_
  refine g_iconst hX dX4_begin_26 (rfl : 26 + 1 = 27) ?_
  refine pu_M_X4_118_M hX dX4_begin_27 (rfl : 27 + 3 = 30) (fun Y6 => ?_)
  refine g_aload_n hX dX4_begin_30 (rfl : 30 + 1 = 31) rfl ?_
  refine g_iconst hX dX4_begin_31 (rfl : 31 + 1 = 32) ?_
  refine pu_M_X4_121_M hX dX4_begin_32 (rfl : 32 + 3 = 35) (fun Y7 => ?_)
  refine g_iconst hX dX4_begin_35 (rfl : 35 + 1 = 36) ?_
  refine g_istore_n (lv' := fun x8 => [some (.ref (q 0)), some (.int (iz a0)), some (.int (iz a1)), some (.int (iz x8))]) hX dX4_begin_36 (rfl : 36 + 1 = 37) rfl (fun _ => rfl) (fun x8 => ?_)
  refine g_drop (lv' := [some (.ref (q 0)), none, some (.int (iz a1)), some (.int (iz x8))]) 1 rfl ?_
  refine g_drop (lv' := [some (.ref (q 0)), none, none, some (.int (iz x8))]) 2 rfl ?_
  exact wX4_begin_37 hX FU x8 Y7
set_option maxRecDepth 100000 in
theorem wX4_partSize_34 {X : Cx} {D : va_G} {y : ClassId × ClassId × ClassId} {q : Nat → Nat} (hX : OKX X cX4_partSize RX4 (rmk 0) (some .int) D y) (v2 : Int) (Y : St) : GF X cX4_partSize D (0, 0) (QI X D y (wM y q)) (fX4_partSize_j34 v2 Y) 34 [some (.ref (q 0)), none, some (.int (iz v2)), none] [] (wM y q Y) := by
  unfold fX4_partSize_j34
  refine g_iload_n hX dX4_partSize_34 (rfl : 34 + 1 = 35) rfl ?_
  exact g_iret hX dX4_partSize_35
set_option maxRecDepth 100000 in
theorem wX4_partSize_26 {X : Cx} {D : va_G} {y : ClassId × ClassId × ClassId} {q : Nat → Nat} (hX : OKX X cX4_partSize RX4 (rmk 0) (some .int) D y) {k_4 : Int → Int → Int → (St) → Option (Int × (St))} (hk_4 : ∀ (v1 v2 v3 : Int) (Y : St), GF X cX4_partSize D (0, 0) (QI X D y (wM y q)) (k_4 v1 v2 v3 Y) 4 [some (.ref (q 0)), some (.int (iz v1)), some (.int (iz v2)), some (.int (iz v3))] [] (wM y q Y)) (v1 v3 s0 s1 : Int) (Y : St) : GF X cX4_partSize D (0, 0) (QI X D y (wM y q)) (fX4_partSize_j26 k_4 v1 v3 s0 s1 Y) 26 [some (.ref (q 0)), some (.int (iz v1)), none, some (.int (iz v3))] [.int (iz s0), .int (iz s1)] (wM y q Y) := by
  unfold fX4_partSize_j26
  refine g_iadd hX dX4_partSize_26 (rfl : 26 + 1 = 27) ?_
  refine g_istore_n (lv' := fun x101 => [some (.ref (q 0)), some (.int (iz v1)), some (.int (iz x101)), some (.int (iz v3))]) hX dX4_partSize_27 (rfl : 27 + 1 = 28) rfl (fun _ => rfl) (fun x101 => ?_)
  refine g_iinc (lv' := fun x102 => [some (.ref (q 0)), some (.int (iz v1)), some (.int (iz x101)), some (.int (iz x102))]) hX dX4_partSize_28 (rfl : 28 + 3 = 31) rfl (fun _ => rfl) (fun x102 => ?_)
  refine g_goto (pc' := 4) hX dX4_partSize_31 (by decide) ?_
  exact hk_4 v1 x101 x102 Y
set_option maxRecDepth 100000 in
theorem wX4_partSize_4 {X : Cx} {D : va_G} {y : ClassId × ClassId × ClassId} {q : Nat → Nat} (hX : OKX X cX4_partSize RX4 (rmk 0) (some .int) D y) : ∀ (n : Nat) (v1 v2 v3 : Int) (Y : St), GF X cX4_partSize D (0, 0) (QI X D y (wM y q)) (fX4_partSize_l4 n v1 v2 v3 Y) 4 [some (.ref (q 0)), some (.int (iz v1)), some (.int (iz v2)), some (.int (iz v3))] [] (wM y q Y) := by
  intro n
  induction n with
  | zero => intro v1 v2 v3 Y; exact g_none
  | succ n hk_4 =>
    intro v1 v2 v3 Y
    unfold fX4_partSize_l4
    refine g_iload_n hX dX4_partSize_4 (rfl : 4 + 1 = 5) rfl ?_
    refine g_bipush hX dX4_partSize_5 (by decide) (rfl : 5 + 2 = 7) ?_
    refine g_icmp_ge (tgt := 34) hX dX4_partSize_7 (by decide) (rfl : 7 + 3 = 10) ?_ ?_
    · refine g_drop (lv' := [some (.ref (q 0)), none, some (.int (iz v2)), some (.int (iz v3))]) 1 rfl ?_
      refine g_drop (lv' := [some (.ref (q 0)), none, some (.int (iz v2)), none]) 3 rfl ?_
      exact wX4_partSize_34 hX v2 Y
    · refine g_iload_n hX dX4_partSize_10 (rfl : 10 + 1 = 11) rfl ?_
      refine g_aload_n hX dX4_partSize_11 (rfl : 11 + 1 = 12) rfl ?_
      refine ge_M_X4_47_M hX dX4_partSize_12 (rfl : 12 + 3 = 15) ?_
      refine g_iload_n hX dX4_partSize_15 (rfl : 15 + 1 = 16) rfl ?_
      refine al_M_M_19 hX dX4_partSize_16 (rfl : 16 + 1 = 17) ?_
      refine g_iload_n hX dX4_partSize_17 (rfl : 17 + 1 = 18) rfl ?_
      refine g_icmp_ne (tgt := 25) hX dX4_partSize_18 (by decide) (rfl : 18 + 3 = 21) ?_ ?_
      · refine g_iconst hX dX4_partSize_25 (rfl : 25 + 1 = 26) ?_
        refine g_drop (lv' := [some (.ref (q 0)), some (.int (iz v1)), none, some (.int (iz v3))]) 2 rfl ?_
        exact wX4_partSize_26 hX hk_4 v1 v3 0 v2 Y
      · refine g_iconst hX dX4_partSize_21 (rfl : 21 + 1 = 22) ?_
        refine g_goto (pc' := 26) hX dX4_partSize_22 (by decide) ?_
        refine g_drop (lv' := [some (.ref (q 0)), some (.int (iz v1)), none, some (.int (iz v3))]) 2 rfl ?_
        exact wX4_partSize_26 hX hk_4 v1 v3 1 v2 Y
set_option maxRecDepth 100000 in
theorem kX4_partSize (l : Launch) (D : va_G) (y : ClassId × ClassId × ClassId) (q : Nat → Nat) (Y : St) (a0 : Int) : CtI l D y yX4_partSize cX4_partSize 4 (some .int) (rmk 0) [.ref (q 0), .int (iz a0)] (wM y q) Y (fX4_partSize Y a0) := by
  refine ctI_of (own := RX4) rfl (by decide) (cat1 rfl) rfl (fun X hl hX => ?_)
  subst hl
  show GF X cX4_partSize D (0, 0) (QI X D y (wM y q)) (fX4_partSize Y a0) 0 [some (.ref (q 0)), some (.int (iz a0)), none, none] [] (wM y q Y)
  unfold fX4_partSize
  refine g_iconst hX dX4_partSize_0 (rfl : 0 + 1 = 1) ?_
  refine g_istore_n (lv' := fun x1 => [some (.ref (q 0)), some (.int (iz a0)), some (.int (iz x1)), none]) hX dX4_partSize_1 (rfl : 1 + 1 = 2) rfl (fun _ => rfl) (fun x1 => ?_)
  refine g_iconst hX dX4_partSize_2 (rfl : 2 + 1 = 3) ?_
  refine g_istore_n (lv' := fun x2 => [some (.ref (q 0)), some (.int (iz a0)), some (.int (iz x1)), some (.int (iz x2))]) hX dX4_partSize_3 (rfl : 3 + 1 = 4) rfl (fun _ => rfl) (fun x2 => ?_)
  exact wX4_partSize_4 hX FU a0 x1 x2 Y
set_option maxRecDepth 100000 in
theorem wX4_firstIn_51 {X : Cx} {D : va_G} {y : ClassId × ClassId × ClassId} {q : Nat → Nat} (hX : OKX X cX4_firstIn RX4 (rmk 0) (some .int) D y) (v2 : Int) (Y : St) : GF X cX4_firstIn D (0, 0) (QI X D y (wM y q)) (fX4_firstIn_j51 v2 Y) 51 [some (.ref (q 0)), none, some (.int (iz v2)), none] [] (wM y q Y) := by
  unfold fX4_firstIn_j51
  refine g_iload_n hX dX4_firstIn_51 (rfl : 51 + 1 = 52) rfl ?_
  exact g_iret hX dX4_firstIn_52
set_option maxRecDepth 100000 in
theorem wX4_firstIn_44 {X : Cx} {D : va_G} {y : ClassId × ClassId × ClassId} {q : Nat → Nat} (hX : OKX X cX4_firstIn RX4 (rmk 0) (some .int) D y) {k_4 : Int → Int → Int → (St) → Option (Int × (St))} (hk_4 : ∀ (v1 v2 v3 : Int) (Y : St), GF X cX4_firstIn D (0, 0) (QI X D y (wM y q)) (k_4 v1 v2 v3 Y) 4 [some (.ref (q 0)), some (.int (iz v1)), some (.int (iz v2)), some (.int (iz v3))] [] (wM y q Y)) (v1 v3 s0 : Int) (Y : St) : GF X cX4_firstIn D (0, 0) (QI X D y (wM y q)) (fX4_firstIn_j44 k_4 v1 v3 s0 Y) 44 [some (.ref (q 0)), some (.int (iz v1)), none, some (.int (iz v3))] [.int (iz s0)] (wM y q Y) := by
  unfold fX4_firstIn_j44
  refine g_istore_n (lv' := fun x101 => [some (.ref (q 0)), some (.int (iz v1)), some (.int (iz x101)), some (.int (iz v3))]) hX dX4_firstIn_44 (rfl : 44 + 1 = 45) rfl (fun _ => rfl) (fun x101 => ?_)
  refine g_iinc (lv' := fun x102 => [some (.ref (q 0)), some (.int (iz v1)), some (.int (iz x101)), some (.int (iz x102))]) hX dX4_firstIn_45 (rfl : 45 + 3 = 48) rfl (fun _ => rfl) (fun x102 => ?_)
  refine g_goto (pc' := 4) hX dX4_firstIn_48 (by decide) ?_
  exact hk_4 v1 x101 x102 Y
set_option maxRecDepth 100000 in
theorem wX4_firstIn_43 {X : Cx} {D : va_G} {y : ClassId × ClassId × ClassId} {q : Nat → Nat} (hX : OKX X cX4_firstIn RX4 (rmk 0) (some .int) D y) {k_4 : Int → Int → Int → (St) → Option (Int × (St))} (hk_4 : ∀ (v1 v2 v3 : Int) (Y : St), GF X cX4_firstIn D (0, 0) (QI X D y (wM y q)) (k_4 v1 v2 v3 Y) 4 [some (.ref (q 0)), some (.int (iz v1)), some (.int (iz v2)), some (.int (iz v3))] [] (wM y q Y)) (v1 v2 v3 : Int) (Y : St) : GF X cX4_firstIn D (0, 0) (QI X D y (wM y q)) (fX4_firstIn_j43 k_4 v1 v2 v3 Y) 43 [some (.ref (q 0)), some (.int (iz v1)), some (.int (iz v2)), some (.int (iz v3))] [] (wM y q Y) := by
  unfold fX4_firstIn_j43
  refine g_iload_n hX dX4_firstIn_43 (rfl : 43 + 1 = 44) rfl ?_
  refine g_drop (lv' := [some (.ref (q 0)), some (.int (iz v1)), none, some (.int (iz v3))]) 2 rfl ?_
  exact wX4_firstIn_44 hX hk_4 v1 v3 v2 Y
set_option maxRecDepth 100000 in
theorem wX4_firstIn_39 {X : Cx} {D : va_G} {y : ClassId × ClassId × ClassId} {q : Nat → Nat} (hX : OKX X cX4_firstIn RX4 (rmk 0) (some .int) D y) {k_4 : Int → Int → Int → (St) → Option (Int × (St))} (hk_4 : ∀ (v1 v2 v3 : Int) (Y : St), GF X cX4_firstIn D (0, 0) (QI X D y (wM y q)) (k_4 v1 v2 v3 Y) 4 [some (.ref (q 0)), some (.int (iz v1)), some (.int (iz v2)), some (.int (iz v3))] [] (wM y q Y)) (v1 v3 : Int) (Y : St) : GF X cX4_firstIn D (0, 0) (QI X D y (wM y q)) (fX4_firstIn_j39 k_4 v1 v3 Y) 39 [some (.ref (q 0)), some (.int (iz v1)), none, some (.int (iz v3))] [] (wM y q Y) := by
  unfold fX4_firstIn_j39
  refine g_iload_n hX dX4_firstIn_39 (rfl : 39 + 1 = 40) rfl ?_
  refine g_goto (pc' := 44) hX dX4_firstIn_40 (by decide) ?_
  exact wX4_firstIn_44 hX hk_4 v1 v3 v3 Y
set_option maxRecDepth 100000 in
theorem wX4_firstIn_4 {X : Cx} {D : va_G} {y : ClassId × ClassId × ClassId} {q : Nat → Nat} (hX : OKX X cX4_firstIn RX4 (rmk 0) (some .int) D y) : ∀ (n : Nat) (v1 v2 v3 : Int) (Y : St), GF X cX4_firstIn D (0, 0) (QI X D y (wM y q)) (fX4_firstIn_l4 n v1 v2 v3 Y) 4 [some (.ref (q 0)), some (.int (iz v1)), some (.int (iz v2)), some (.int (iz v3))] [] (wM y q Y) := by
  intro n
  induction n with
  | zero => intro v1 v2 v3 Y; exact g_none
  | succ n hk_4 =>
    intro v1 v2 v3 Y
    unfold fX4_firstIn_l4
    refine g_iload_n hX dX4_firstIn_4 (rfl : 4 + 1 = 5) rfl ?_
    refine g_bipush hX dX4_firstIn_5 (by decide) (rfl : 5 + 2 = 7) ?_
    refine g_icmp_ge (tgt := 51) hX dX4_firstIn_7 (by decide) (rfl : 7 + 3 = 10) ?_ ?_
    · refine g_drop (lv' := [some (.ref (q 0)), none, some (.int (iz v2)), some (.int (iz v3))]) 1 rfl ?_
      refine g_drop (lv' := [some (.ref (q 0)), none, some (.int (iz v2)), none]) 3 rfl ?_
      exact wX4_firstIn_51 hX v2 Y
    · refine g_aload_n hX dX4_firstIn_10 (rfl : 10 + 1 = 11) rfl ?_
      refine ge_M_X4_47_M hX dX4_firstIn_11 (rfl : 11 + 3 = 14) ?_
      refine g_iload_n hX dX4_firstIn_14 (rfl : 14 + 1 = 15) rfl ?_
      refine al_M_M_19 hX dX4_firstIn_15 (rfl : 15 + 1 = 16) ?_
      refine g_iload_n hX dX4_firstIn_16 (rfl : 16 + 1 = 17) rfl ?_
      refine g_icmp_ne (tgt := 43) hX dX4_firstIn_17 (by decide) (rfl : 17 + 3 = 20) ?_ ?_
      · exact wX4_firstIn_43 hX hk_4 v1 v2 v3 Y
      · refine g_iload_n hX dX4_firstIn_20 (rfl : 20 + 1 = 21) rfl ?_
        refine g_if_lt (tgt := 39) hX dX4_firstIn_21 (by decide) (rfl : 21 + 3 = 24) ?_ ?_
        · refine g_drop (lv' := [some (.ref (q 0)), some (.int (iz v1)), none, some (.int (iz v3))]) 2 rfl ?_
          exact wX4_firstIn_39 hX hk_4 v1 v3 Y
        · refine g_aload_n hX dX4_firstIn_24 (rfl : 24 + 1 = 25) rfl ?_
          refine ge_M_X4_50_M hX dX4_firstIn_25 (rfl : 25 + 3 = 28) ?_
          refine g_iload_n hX dX4_firstIn_28 (rfl : 28 + 1 = 29) rfl ?_
          refine al_M_M_20 hX dX4_firstIn_29 (rfl : 29 + 1 = 30) ?_
          refine g_aload_n hX dX4_firstIn_30 (rfl : 30 + 1 = 31) rfl ?_
          refine ge_M_X4_50_M hX dX4_firstIn_31 (rfl : 31 + 3 = 34) ?_
          refine g_iload_n hX dX4_firstIn_34 (rfl : 34 + 1 = 35) rfl ?_
          refine al_M_M_20 hX dX4_firstIn_35 (rfl : 35 + 1 = 36) ?_
          refine g_icmp_ge (tgt := 43) hX dX4_firstIn_36 (by decide) (rfl : 36 + 3 = 39) ?_ ?_
          · exact wX4_firstIn_43 hX hk_4 v1 v2 v3 Y
          · refine g_drop (lv' := [some (.ref (q 0)), some (.int (iz v1)), none, some (.int (iz v3))]) 2 rfl ?_
            exact wX4_firstIn_39 hX hk_4 v1 v3 Y
set_option maxRecDepth 100000 in
theorem kX4_firstIn (l : Launch) (D : va_G) (y : ClassId × ClassId × ClassId) (q : Nat → Nat) (Y : St) (a0 : Int) : CtI l D y yX4_firstIn cX4_firstIn 4 (some .int) (rmk 0) [.ref (q 0), .int (iz a0)] (wM y q) Y (fX4_firstIn Y a0) := by
  refine ctI_of (own := RX4) rfl (by decide) (cat1 rfl) rfl (fun X hl hX => ?_)
  subst hl
  show GF X cX4_firstIn D (0, 0) (QI X D y (wM y q)) (fX4_firstIn Y a0) 0 [some (.ref (q 0)), some (.int (iz a0)), none, none] [] (wM y q Y)
  unfold fX4_firstIn
  refine g_iconst hX dX4_firstIn_0 (rfl : 0 + 1 = 1) ?_
  refine g_istore_n (lv' := fun x1 => [some (.ref (q 0)), some (.int (iz a0)), some (.int (iz x1)), none]) hX dX4_firstIn_1 (rfl : 1 + 1 = 2) rfl (fun _ => rfl) (fun x1 => ?_)
  refine g_iconst hX dX4_firstIn_2 (rfl : 2 + 1 = 3) ?_
  refine g_istore_n (lv' := fun x2 => [some (.ref (q 0)), some (.int (iz a0)), some (.int (iz x1)), some (.int (iz x2))]) hX dX4_firstIn_3 (rfl : 3 + 1 = 4) rfl (fun _ => rfl) (fun x2 => ?_)
  exact wX4_firstIn_4 hX FU a0 x1 x2 Y
set_option maxRecDepth 100000 in
theorem wX4_resting_96 {X : Cx} {D : va_G} {y : ClassId × ClassId × ClassId} {q : Nat → Nat} (hX : OKX X cX4_resting RX4 (rmk 0) (some .int) D y) (v3 : Int) (Y : St) : GF X cX4_resting D (0, 0) (QI X D y (wM y q)) (fX4_resting_j96 v3 Y) 96 [some (.ref (q 0)), none, none, some (.int (iz v3)), none, none] [] (wM y q Y) := by
  unfold fX4_resting_j96
  refine g_iload_n hX dX4_resting_96 (rfl : 96 + 1 = 97) rfl ?_
  exact g_iret hX dX4_resting_97
set_option maxRecDepth 100000 in
theorem wX4_resting_89 {X : Cx} {D : va_G} {y : ClassId × ClassId × ClassId} {q : Nat → Nat} (hX : OKX X cX4_resting RX4 (rmk 0) (some .int) D y) {k_5 : Int → Int → Int → Int → (St) → Option (Int × (St))} (hk_5 : ∀ (v1 v2 v3 v4 : Int) (Y : St), GF X cX4_resting D (0, 0) (QI X D y (wM y q)) (k_5 v1 v2 v3 v4 Y) 5 [some (.ref (q 0)), some (.int (iz v1)), some (.int (iz v2)), some (.int (iz v3)), some (.int (iz v4)), none] [] (wM y q Y)) (v1 v2 v4 s0 : Int) (Y : St) : GF X cX4_resting D (0, 0) (QI X D y (wM y q)) (fX4_resting_j89 k_5 v1 v2 v4 s0 Y) 89 [some (.ref (q 0)), some (.int (iz v1)), some (.int (iz v2)), none, some (.int (iz v4)), none] [.int (iz s0)] (wM y q Y) := by
  unfold fX4_resting_j89
  refine g_istore_n (lv' := fun x101 => [some (.ref (q 0)), some (.int (iz v1)), some (.int (iz v2)), some (.int (iz x101)), some (.int (iz v4)), none]) hX dX4_resting_89 (rfl : 89 + 1 = 90) rfl (fun _ => rfl) (fun x101 => ?_)
  refine g_iinc (lv' := fun x102 => [some (.ref (q 0)), some (.int (iz v1)), some (.int (iz v2)), some (.int (iz x101)), some (.int (iz x102)), none]) hX dX4_resting_90 (rfl : 90 + 3 = 93) rfl (fun _ => rfl) (fun x102 => ?_)
  refine g_goto (pc' := 5) hX dX4_resting_93 (by decide) ?_
  exact hk_5 v1 v2 x101 x102 Y
set_option maxRecDepth 100000 in
theorem wX4_resting_88 {X : Cx} {D : va_G} {y : ClassId × ClassId × ClassId} {q : Nat → Nat} (hX : OKX X cX4_resting RX4 (rmk 0) (some .int) D y) {k_5 : Int → Int → Int → Int → (St) → Option (Int × (St))} (hk_5 : ∀ (v1 v2 v3 v4 : Int) (Y : St), GF X cX4_resting D (0, 0) (QI X D y (wM y q)) (k_5 v1 v2 v3 v4 Y) 5 [some (.ref (q 0)), some (.int (iz v1)), some (.int (iz v2)), some (.int (iz v3)), some (.int (iz v4)), none] [] (wM y q Y)) (v1 v2 v3 v4 : Int) (Y : St) : GF X cX4_resting D (0, 0) (QI X D y (wM y q)) (fX4_resting_j88 k_5 v1 v2 v3 v4 Y) 88 [some (.ref (q 0)), some (.int (iz v1)), some (.int (iz v2)), some (.int (iz v3)), some (.int (iz v4)), none] [] (wM y q Y) := by
  unfold fX4_resting_j88
  refine g_iload_n hX dX4_resting_88 (rfl : 88 + 1 = 89) rfl ?_
  refine g_drop (lv' := [some (.ref (q 0)), some (.int (iz v1)), some (.int (iz v2)), none, some (.int (iz v4)), none]) 3 rfl ?_
  exact wX4_resting_89 hX hk_5 v1 v2 v4 v3 Y
set_option maxRecDepth 100000 in
theorem wX4_resting_83 {X : Cx} {D : va_G} {y : ClassId × ClassId × ClassId} {q : Nat → Nat} (hX : OKX X cX4_resting RX4 (rmk 0) (some .int) D y) {k_5 : Int → Int → Int → Int → (St) → Option (Int × (St))} (hk_5 : ∀ (v1 v2 v3 v4 : Int) (Y : St), GF X cX4_resting D (0, 0) (QI X D y (wM y q)) (k_5 v1 v2 v3 v4 Y) 5 [some (.ref (q 0)), some (.int (iz v1)), some (.int (iz v2)), some (.int (iz v3)), some (.int (iz v4)), none] [] (wM y q Y)) (v1 v2 v4 : Int) (Y : St) : GF X cX4_resting D (0, 0) (QI X D y (wM y q)) (fX4_resting_j83 k_5 v1 v2 v4 Y) 83 [some (.ref (q 0)), some (.int (iz v1)), some (.int (iz v2)), none, some (.int (iz v4)), none] [] (wM y q Y) := by
  unfold fX4_resting_j83
  refine g_iload hX dX4_resting_83 (rfl : 83 + 2 = 85) rfl ?_
  refine g_goto (pc' := 89) hX dX4_resting_85 (by decide) ?_
  exact wX4_resting_89 hX hk_5 v1 v2 v4 v4 Y
set_option maxRecDepth 100000 in
theorem wX4_resting_56 {X : Cx} {D : va_G} {y : ClassId × ClassId × ClassId} {q : Nat → Nat} (hX : OKX X cX4_resting RX4 (rmk 0) (some .int) D y) {k_5 : Int → Int → Int → Int → (St) → Option (Int × (St))} (hk_5 : ∀ (v1 v2 v3 v4 : Int) (Y : St), GF X cX4_resting D (0, 0) (QI X D y (wM y q)) (k_5 v1 v2 v3 v4 Y) 5 [some (.ref (q 0)), some (.int (iz v1)), some (.int (iz v2)), some (.int (iz v3)), some (.int (iz v4)), none] [] (wM y q Y)) (v1 v2 v3 v4 s0 : Int) (Y : St) : GF X cX4_resting D (0, 0) (QI X D y (wM y q)) (fX4_resting_j56 k_5 v1 v2 v3 v4 s0 Y) 56 [some (.ref (q 0)), some (.int (iz v1)), some (.int (iz v2)), some (.int (iz v3)), some (.int (iz v4)), none] [.int (iz s0)] (wM y q Y) := by
  unfold fX4_resting_j56
  refine g_istore (lv' := fun x103 => [some (.ref (q 0)), some (.int (iz v1)), some (.int (iz v2)), some (.int (iz v3)), some (.int (iz v4)), some (.int (iz x103))]) hX dX4_resting_56 (rfl : 56 + 2 = 58) rfl (fun _ => rfl) (fun x103 => ?_)
  refine g_iload hX dX4_resting_58 (rfl : 58 + 2 = 60) rfl ?_
  refine g_if_eq (tgt := 88) hX dX4_resting_60 (by decide) (rfl : 60 + 3 = 63) ?_ ?_
  · refine g_drop (lv' := [some (.ref (q 0)), some (.int (iz v1)), some (.int (iz v2)), some (.int (iz v3)), some (.int (iz v4)), none]) 5 rfl ?_
    exact wX4_resting_88 hX hk_5 v1 v2 v3 v4 Y
  · refine g_iload_n hX dX4_resting_63 (rfl : 63 + 1 = 64) rfl ?_
    refine g_if_lt (tgt := 83) hX dX4_resting_64 (by decide) (rfl : 64 + 3 = 67) ?_ ?_
    · refine g_drop (lv' := [some (.ref (q 0)), some (.int (iz v1)), some (.int (iz v2)), none, some (.int (iz v4)), some (.int (iz x103))]) 3 rfl ?_
      refine g_drop (lv' := [some (.ref (q 0)), some (.int (iz v1)), some (.int (iz v2)), none, some (.int (iz v4)), none]) 5 rfl ?_
      exact wX4_resting_83 hX hk_5 v1 v2 v4 Y
    · refine g_aload_n hX dX4_resting_67 (rfl : 67 + 1 = 68) rfl ?_
      refine ge_M_X4_35_M hX dX4_resting_68 (rfl : 68 + 3 = 71) ?_
      refine g_iload hX dX4_resting_71 (rfl : 71 + 2 = 73) rfl ?_
      refine al_M_M_15 hX dX4_resting_73 (rfl : 73 + 1 = 74) ?_
      refine g_aload_n hX dX4_resting_74 (rfl : 74 + 1 = 75) rfl ?_
      refine ge_M_X4_35_M hX dX4_resting_75 (rfl : 75 + 3 = 78) ?_
      refine g_iload_n hX dX4_resting_78 (rfl : 78 + 1 = 79) rfl ?_
      refine al_M_M_15 hX dX4_resting_79 (rfl : 79 + 1 = 80) ?_
      refine g_icmp_ge (tgt := 88) hX dX4_resting_80 (by decide) (rfl : 80 + 3 = 83) ?_ ?_
      · refine g_drop (lv' := [some (.ref (q 0)), some (.int (iz v1)), some (.int (iz v2)), some (.int (iz v3)), some (.int (iz v4)), none]) 5 rfl ?_
        exact wX4_resting_88 hX hk_5 v1 v2 v3 v4 Y
      · refine g_drop (lv' := [some (.ref (q 0)), some (.int (iz v1)), some (.int (iz v2)), none, some (.int (iz v4)), some (.int (iz x103))]) 3 rfl ?_
        refine g_drop (lv' := [some (.ref (q 0)), some (.int (iz v1)), some (.int (iz v2)), none, some (.int (iz v4)), none]) 5 rfl ?_
        exact wX4_resting_83 hX hk_5 v1 v2 v4 Y
set_option maxRecDepth 100000 in
theorem wX4_resting_55 {X : Cx} {D : va_G} {y : ClassId × ClassId × ClassId} {q : Nat → Nat} (hX : OKX X cX4_resting RX4 (rmk 0) (some .int) D y) {k_5 : Int → Int → Int → Int → (St) → Option (Int × (St))} (hk_5 : ∀ (v1 v2 v3 v4 : Int) (Y : St), GF X cX4_resting D (0, 0) (QI X D y (wM y q)) (k_5 v1 v2 v3 v4 Y) 5 [some (.ref (q 0)), some (.int (iz v1)), some (.int (iz v2)), some (.int (iz v3)), some (.int (iz v4)), none] [] (wM y q Y)) (v1 v2 v3 v4 : Int) (Y : St) : GF X cX4_resting D (0, 0) (QI X D y (wM y q)) (fX4_resting_j55 k_5 v1 v2 v3 v4 Y) 55 [some (.ref (q 0)), some (.int (iz v1)), some (.int (iz v2)), some (.int (iz v3)), some (.int (iz v4)), none] [] (wM y q Y) := by
  unfold fX4_resting_j55
  refine g_iconst hX dX4_resting_55 (rfl : 55 + 1 = 56) ?_
  exact wX4_resting_56 hX hk_5 v1 v2 v3 v4 0 Y
set_option maxRecDepth 100000 in
theorem wX4_resting_51 {X : Cx} {D : va_G} {y : ClassId × ClassId × ClassId} {q : Nat → Nat} (hX : OKX X cX4_resting RX4 (rmk 0) (some .int) D y) {k_5 : Int → Int → Int → Int → (St) → Option (Int × (St))} (hk_5 : ∀ (v1 v2 v3 v4 : Int) (Y : St), GF X cX4_resting D (0, 0) (QI X D y (wM y q)) (k_5 v1 v2 v3 v4 Y) 5 [some (.ref (q 0)), some (.int (iz v1)), some (.int (iz v2)), some (.int (iz v3)), some (.int (iz v4)), none] [] (wM y q Y)) (v1 v2 v3 v4 : Int) (Y : St) : GF X cX4_resting D (0, 0) (QI X D y (wM y q)) (fX4_resting_j51 k_5 v1 v2 v3 v4 Y) 51 [some (.ref (q 0)), some (.int (iz v1)), some (.int (iz v2)), some (.int (iz v3)), some (.int (iz v4)), none] [] (wM y q Y) := by
  unfold fX4_resting_j51
  refine g_iconst hX dX4_resting_51 (rfl : 51 + 1 = 52) ?_
  refine g_goto (pc' := 56) hX dX4_resting_52 (by decide) ?_
  exact wX4_resting_56 hX hk_5 v1 v2 v3 v4 1 Y
set_option maxRecDepth 100000 in
theorem wX4_resting_37 {X : Cx} {D : va_G} {y : ClassId × ClassId × ClassId} {q : Nat → Nat} (hX : OKX X cX4_resting RX4 (rmk 0) (some .int) D y) {k_5 : Int → Int → Int → Int → (St) → Option (Int × (St))} (hk_5 : ∀ (v1 v2 v3 v4 : Int) (Y : St), GF X cX4_resting D (0, 0) (QI X D y (wM y q)) (k_5 v1 v2 v3 v4 Y) 5 [some (.ref (q 0)), some (.int (iz v1)), some (.int (iz v2)), some (.int (iz v3)), some (.int (iz v4)), none] [] (wM y q Y)) (v1 v2 v3 v4 : Int) (Y : St) : GF X cX4_resting D (0, 0) (QI X D y (wM y q)) (fX4_resting_j37 k_5 v1 v2 v3 v4 Y) 37 [some (.ref (q 0)), some (.int (iz v1)), some (.int (iz v2)), some (.int (iz v3)), some (.int (iz v4)), none] [] (wM y q Y) := by
  unfold fX4_resting_j37
  refine g_iload_n hX dX4_resting_37 (rfl : 37 + 1 = 38) rfl ?_
  refine g_if_eq (tgt := 51) hX dX4_resting_38 (by decide) (rfl : 38 + 3 = 41) ?_ ?_
  · exact wX4_resting_51 hX hk_5 v1 v2 v3 v4 Y
  · refine g_aload_n hX dX4_resting_41 (rfl : 41 + 1 = 42) rfl ?_
    refine ge_M_X4_41_M hX dX4_resting_42 (rfl : 42 + 3 = 45) ?_
    refine g_iload hX dX4_resting_45 (rfl : 45 + 2 = 47) rfl ?_
    refine al_M_M_17 hX dX4_resting_47 (rfl : 47 + 1 = 48) ?_
    refine g_if_ne (tgt := 55) hX dX4_resting_48 (by decide) (rfl : 48 + 3 = 51) ?_ ?_
    · exact wX4_resting_55 hX hk_5 v1 v2 v3 v4 Y
    · exact wX4_resting_51 hX hk_5 v1 v2 v3 v4 Y
set_option maxRecDepth 100000 in
theorem wX4_resting_5 {X : Cx} {D : va_G} {y : ClassId × ClassId × ClassId} {q : Nat → Nat} (hX : OKX X cX4_resting RX4 (rmk 0) (some .int) D y) : ∀ (n : Nat) (v1 v2 v3 v4 : Int) (Y : St), GF X cX4_resting D (0, 0) (QI X D y (wM y q)) (fX4_resting_l5 n v1 v2 v3 v4 Y) 5 [some (.ref (q 0)), some (.int (iz v1)), some (.int (iz v2)), some (.int (iz v3)), some (.int (iz v4)), none] [] (wM y q Y) := by
  intro n
  induction n with
  | zero => intro v1 v2 v3 v4 Y; exact g_none
  | succ n hk_5 =>
    intro v1 v2 v3 v4 Y
    unfold fX4_resting_l5
    refine g_iload hX dX4_resting_5 (rfl : 5 + 2 = 7) rfl ?_
    refine g_bipush hX dX4_resting_7 (by decide) (rfl : 7 + 2 = 9) ?_
    refine g_icmp_ge (tgt := 96) hX dX4_resting_9 (by decide) (rfl : 9 + 3 = 12) ?_ ?_
    · refine g_drop (lv' := [some (.ref (q 0)), none, some (.int (iz v2)), some (.int (iz v3)), some (.int (iz v4)), none]) 1 rfl ?_
      refine g_drop (lv' := [some (.ref (q 0)), none, none, some (.int (iz v3)), some (.int (iz v4)), none]) 2 rfl ?_
      refine g_drop (lv' := [some (.ref (q 0)), none, none, some (.int (iz v3)), none, none]) 4 rfl ?_
      exact wX4_resting_96 hX v3 Y
    · refine g_aload_n hX dX4_resting_12 (rfl : 12 + 1 = 13) rfl ?_
      refine ge_M_X4_28_M hX dX4_resting_13 (rfl : 13 + 3 = 16) ?_
      refine g_iload hX dX4_resting_16 (rfl : 16 + 2 = 18) rfl ?_
      refine al_M_M_13 hX dX4_resting_18 (rfl : 18 + 1 = 19) ?_
      refine g_if_eq (tgt := 55) hX dX4_resting_19 (by decide) (rfl : 19 + 3 = 22) ?_ ?_
      · exact wX4_resting_55 hX hk_5 v1 v2 v3 v4 Y
      · refine g_iload_n hX dX4_resting_22 (rfl : 22 + 1 = 23) rfl ?_
        refine g_if_eq (tgt := 37) hX dX4_resting_23 (by decide) (rfl : 23 + 3 = 26) ?_ ?_
        · exact wX4_resting_37 hX hk_5 v1 v2 v3 v4 Y
        · refine g_aload_n hX dX4_resting_26 (rfl : 26 + 1 = 27) rfl ?_
          refine ge_M_X4_47_M hX dX4_resting_27 (rfl : 27 + 3 = 30) ?_
          refine g_iload hX dX4_resting_30 (rfl : 30 + 2 = 32) rfl ?_
          refine al_M_M_19 hX dX4_resting_32 (rfl : 32 + 1 = 33) ?_
          refine g_iload_n hX dX4_resting_33 (rfl : 33 + 1 = 34) rfl ?_
          refine g_icmp_ne (tgt := 55) hX dX4_resting_34 (by decide) (rfl : 34 + 3 = 37) ?_ ?_
          · exact wX4_resting_55 hX hk_5 v1 v2 v3 v4 Y
          · exact wX4_resting_37 hX hk_5 v1 v2 v3 v4 Y
set_option maxRecDepth 100000 in
theorem kX4_resting (l : Launch) (D : va_G) (y : ClassId × ClassId × ClassId) (q : Nat → Nat) (Y : St) (a0 a1 : Int) : CtI l D y yX4_resting cX4_resting 6 (some .int) (rmk 0) [.ref (q 0), .int (iz a0), .int (iz a1)] (wM y q) Y (fX4_resting Y a0 a1) := by
  refine ctI_of (own := RX4) rfl (by decide) (cat1 rfl) rfl (fun X hl hX => ?_)
  subst hl
  show GF X cX4_resting D (0, 0) (QI X D y (wM y q)) (fX4_resting Y a0 a1) 0 [some (.ref (q 0)), some (.int (iz a0)), some (.int (iz a1)), none, none, none] [] (wM y q Y)
  unfold fX4_resting
  refine g_iconst hX dX4_resting_0 (rfl : 0 + 1 = 1) ?_
  refine g_istore_n (lv' := fun x1 => [some (.ref (q 0)), some (.int (iz a0)), some (.int (iz a1)), some (.int (iz x1)), none, none]) hX dX4_resting_1 (rfl : 1 + 1 = 2) rfl (fun _ => rfl) (fun x1 => ?_)
  refine g_iconst hX dX4_resting_2 (rfl : 2 + 1 = 3) ?_
  refine g_istore (lv' := fun x2 => [some (.ref (q 0)), some (.int (iz a0)), some (.int (iz a1)), some (.int (iz x1)), some (.int (iz x2)), none]) hX dX4_resting_3 (rfl : 3 + 2 = 5) rfl (fun _ => rfl) (fun x2 => ?_)
  exact wX4_resting_5 hX FU a0 a1 x1 x2 Y
set_option maxRecDepth 100000 in
theorem wX4_oldest_50 {X : Cx} {D : va_G} {y : ClassId × ClassId × ClassId} {q : Nat → Nat} (hX : OKX X cX4_oldest RX4 (rmk 0) (some .int) D y) (v1 : Int) (Y : St) : GF X cX4_oldest D (0, 0) (QI X D y (wM y q)) (fX4_oldest_j50 v1 Y) 50 [some (.ref (q 0)), some (.int (iz v1)), none] [] (wM y q Y) := by
  unfold fX4_oldest_j50
  refine g_iload_n hX dX4_oldest_50 (rfl : 50 + 1 = 51) rfl ?_
  exact g_iret hX dX4_oldest_51
set_option maxRecDepth 100000 in
theorem wX4_oldest_43 {X : Cx} {D : va_G} {y : ClassId × ClassId × ClassId} {q : Nat → Nat} (hX : OKX X cX4_oldest RX4 (rmk 0) (some .int) D y) {k_4 : Int → Int → (St) → Option (Int × (St))} (hk_4 : ∀ (v1 v2 : Int) (Y : St), GF X cX4_oldest D (0, 0) (QI X D y (wM y q)) (k_4 v1 v2 Y) 4 [some (.ref (q 0)), some (.int (iz v1)), some (.int (iz v2))] [] (wM y q Y)) (v2 s0 : Int) (Y : St) : GF X cX4_oldest D (0, 0) (QI X D y (wM y q)) (fX4_oldest_j43 k_4 v2 s0 Y) 43 [some (.ref (q 0)), none, some (.int (iz v2))] [.int (iz s0)] (wM y q Y) := by
  unfold fX4_oldest_j43
  refine g_istore_n (lv' := fun x101 => [some (.ref (q 0)), some (.int (iz x101)), some (.int (iz v2))]) hX dX4_oldest_43 (rfl : 43 + 1 = 44) rfl (fun _ => rfl) (fun x101 => ?_)
  refine g_iinc (lv' := fun x102 => [some (.ref (q 0)), some (.int (iz x101)), some (.int (iz x102))]) hX dX4_oldest_44 (rfl : 44 + 3 = 47) rfl (fun _ => rfl) (fun x102 => ?_)
  refine g_goto (pc' := 4) hX dX4_oldest_47 (by decide) ?_
  exact hk_4 x101 x102 Y
set_option maxRecDepth 100000 in
theorem wX4_oldest_42 {X : Cx} {D : va_G} {y : ClassId × ClassId × ClassId} {q : Nat → Nat} (hX : OKX X cX4_oldest RX4 (rmk 0) (some .int) D y) {k_4 : Int → Int → (St) → Option (Int × (St))} (hk_4 : ∀ (v1 v2 : Int) (Y : St), GF X cX4_oldest D (0, 0) (QI X D y (wM y q)) (k_4 v1 v2 Y) 4 [some (.ref (q 0)), some (.int (iz v1)), some (.int (iz v2))] [] (wM y q Y)) (v1 v2 : Int) (Y : St) : GF X cX4_oldest D (0, 0) (QI X D y (wM y q)) (fX4_oldest_j42 k_4 v1 v2 Y) 42 [some (.ref (q 0)), some (.int (iz v1)), some (.int (iz v2))] [] (wM y q Y) := by
  unfold fX4_oldest_j42
  refine g_iload_n hX dX4_oldest_42 (rfl : 42 + 1 = 43) rfl ?_
  refine g_drop (lv' := [some (.ref (q 0)), none, some (.int (iz v2))]) 1 rfl ?_
  exact wX4_oldest_43 hX hk_4 v2 v1 Y
set_option maxRecDepth 100000 in
theorem wX4_oldest_38 {X : Cx} {D : va_G} {y : ClassId × ClassId × ClassId} {q : Nat → Nat} (hX : OKX X cX4_oldest RX4 (rmk 0) (some .int) D y) {k_4 : Int → Int → (St) → Option (Int × (St))} (hk_4 : ∀ (v1 v2 : Int) (Y : St), GF X cX4_oldest D (0, 0) (QI X D y (wM y q)) (k_4 v1 v2 Y) 4 [some (.ref (q 0)), some (.int (iz v1)), some (.int (iz v2))] [] (wM y q Y)) (v2 : Int) (Y : St) : GF X cX4_oldest D (0, 0) (QI X D y (wM y q)) (fX4_oldest_j38 k_4 v2 Y) 38 [some (.ref (q 0)), none, some (.int (iz v2))] [] (wM y q Y) := by
  unfold fX4_oldest_j38
  refine g_iload_n hX dX4_oldest_38 (rfl : 38 + 1 = 39) rfl ?_
  refine g_goto (pc' := 43) hX dX4_oldest_39 (by decide) ?_
  exact wX4_oldest_43 hX hk_4 v2 v2 Y
set_option maxRecDepth 100000 in
theorem wX4_oldest_4 {X : Cx} {D : va_G} {y : ClassId × ClassId × ClassId} {q : Nat → Nat} (hX : OKX X cX4_oldest RX4 (rmk 0) (some .int) D y) : ∀ (n : Nat) (v1 v2 : Int) (Y : St), GF X cX4_oldest D (0, 0) (QI X D y (wM y q)) (fX4_oldest_l4 n v1 v2 Y) 4 [some (.ref (q 0)), some (.int (iz v1)), some (.int (iz v2))] [] (wM y q Y) := by
  intro n
  induction n with
  | zero => intro v1 v2 Y; exact g_none
  | succ n hk_4 =>
    intro v1 v2 Y
    unfold fX4_oldest_l4
    refine g_iload_n hX dX4_oldest_4 (rfl : 4 + 1 = 5) rfl ?_
    refine g_bipush hX dX4_oldest_5 (by decide) (rfl : 5 + 2 = 7) ?_
    refine g_icmp_ge (tgt := 50) hX dX4_oldest_7 (by decide) (rfl : 7 + 3 = 10) ?_ ?_
    · refine g_drop (lv' := [some (.ref (q 0)), some (.int (iz v1)), none]) 2 rfl ?_
      exact wX4_oldest_50 hX v1 Y
    · refine g_aload_n hX dX4_oldest_10 (rfl : 10 + 1 = 11) rfl ?_
      refine ge_M_X4_28_M hX dX4_oldest_11 (rfl : 11 + 3 = 14) ?_
      refine g_iload_n hX dX4_oldest_14 (rfl : 14 + 1 = 15) rfl ?_
      refine al_M_M_13 hX dX4_oldest_15 (rfl : 15 + 1 = 16) ?_
      refine g_if_eq (tgt := 42) hX dX4_oldest_16 (by decide) (rfl : 16 + 3 = 19) ?_ ?_
      · exact wX4_oldest_42 hX hk_4 v1 v2 Y
      · refine g_iload_n hX dX4_oldest_19 (rfl : 19 + 1 = 20) rfl ?_
        refine g_if_lt (tgt := 38) hX dX4_oldest_20 (by decide) (rfl : 20 + 3 = 23) ?_ ?_
        · refine g_drop (lv' := [some (.ref (q 0)), none, some (.int (iz v2))]) 1 rfl ?_
          exact wX4_oldest_38 hX hk_4 v2 Y
        · refine g_aload_n hX dX4_oldest_23 (rfl : 23 + 1 = 24) rfl ?_
          refine ge_M_X4_32_M hX dX4_oldest_24 (rfl : 24 + 3 = 27) ?_
          refine g_iload_n hX dX4_oldest_27 (rfl : 27 + 1 = 28) rfl ?_
          refine al_M_M_14 hX dX4_oldest_28 (rfl : 28 + 1 = 29) ?_
          refine g_aload_n hX dX4_oldest_29 (rfl : 29 + 1 = 30) rfl ?_
          refine ge_M_X4_32_M hX dX4_oldest_30 (rfl : 30 + 3 = 33) ?_
          refine g_iload_n hX dX4_oldest_33 (rfl : 33 + 1 = 34) rfl ?_
          refine al_M_M_14 hX dX4_oldest_34 (rfl : 34 + 1 = 35) ?_
          refine g_icmp_ge (tgt := 42) hX dX4_oldest_35 (by decide) (rfl : 35 + 3 = 38) ?_ ?_
          · exact wX4_oldest_42 hX hk_4 v1 v2 Y
          · refine g_drop (lv' := [some (.ref (q 0)), none, some (.int (iz v2))]) 1 rfl ?_
            exact wX4_oldest_38 hX hk_4 v2 Y
set_option maxRecDepth 100000 in
theorem kX4_oldest (l : Launch) (D : va_G) (y : ClassId × ClassId × ClassId) (q : Nat → Nat) (Y : St) : CtI l D y yX4_oldest cX4_oldest 3 (some .int) (rmk 0) [.ref (q 0)] (wM y q) Y (fX4_oldest Y) := by
  refine ctI_of (own := RX4) rfl (by decide) (cat1 rfl) rfl (fun X hl hX => ?_)
  subst hl
  show GF X cX4_oldest D (0, 0) (QI X D y (wM y q)) (fX4_oldest Y) 0 [some (.ref (q 0)), none, none] [] (wM y q Y)
  unfold fX4_oldest
  refine g_iconst hX dX4_oldest_0 (rfl : 0 + 1 = 1) ?_
  refine g_istore_n (lv' := fun x1 => [some (.ref (q 0)), some (.int (iz x1)), none]) hX dX4_oldest_1 (rfl : 1 + 1 = 2) rfl (fun _ => rfl) (fun x1 => ?_)
  refine g_iconst hX dX4_oldest_2 (rfl : 2 + 1 = 3) ?_
  refine g_istore_n (lv' := fun x2 => [some (.ref (q 0)), some (.int (iz x1)), some (.int (iz x2))]) hX dX4_oldest_3 (rfl : 3 + 1 = 4) rfl (fun _ => rfl) (fun x2 => ?_)
  exact wX4_oldest_4 hX FU x1 x2 Y
set_option maxRecDepth 100000 in
theorem wX4_unmarked_49 {X : Cx} {D : va_G} {y : ClassId × ClassId × ClassId} {q : Nat → Nat} (hX : OKX X cX4_unmarked RX4 (rmk 1) (some .int) D y) (v1 : Int) (Y : St) : GF X cX4_unmarked D (0, 0) (QI X D y (wM y q)) (fX4_unmarked_j49 v1 Y) 49 [some (.ref (q 0)), some (.int (iz v1)), none] [] (wM y q Y) := by
  unfold fX4_unmarked_j49
  refine g_iload_n hX dX4_unmarked_49 (rfl : 49 + 1 = 50) rfl ?_
  exact g_iret hX dX4_unmarked_50
set_option maxRecDepth 100000 in
theorem wX4_unmarked_32 {X : Cx} {D : va_G} {y : ClassId × ClassId × ClassId} {q : Nat → Nat} (hX : OKX X cX4_unmarked RX4 (rmk 1) (some .int) D y) (Y : St) : GF X cX4_unmarked D (0, 0) (QI X D y (wM y q)) (fX4_unmarked_j32  Y) 32 [some (.ref (q 0)), none, none] [] (wM y q Y) := by
  unfold fX4_unmarked_j32
  refine g_aload_n hX dX4_unmarked_32 (rfl : 32 + 1 = 33) rfl ?_
  refine g_dup hX dX4_unmarked_33 rfl (rfl : 33 + 1 = 34) ?_
  refine ge_M_X4_112_M hX dX4_unmarked_34 (rfl : 34 + 3 = 37) ?_
  refine g_iconst hX dX4_unmarked_37 (rfl : 37 + 1 = 38) ?_
  refine g_iadd hX dX4_unmarked_38 (rfl : 38 + 1 = 39) ?_
  refine pu_M_X4_112_M hX dX4_unmarked_39 (rfl : 39 + 3 = 42) (fun Y101 => ?_)
  refine g_aload_n hX dX4_unmarked_42 (rfl : 42 + 1 = 43) rfl ?_
  refine g_iconst hX dX4_unmarked_43 (rfl : 43 + 1 = 44) ?_
  refine g_iconst hX dX4_unmarked_44 (rfl : 44 + 1 = 45) ?_
  refine ci_MM hX (kX4_resting _ _ _ (q) _ _ _) mw_X4_124 (by decide) rfl rfl (Nat.le_of_ble_eq_true rfl) dX4_unmarked_45 (rfl : 45 + 3 = 48) (fun r103 Y102 => ?_)
  refine g_istore_n (lv' := fun x104 => [some (.ref (q 0)), some (.int (iz x104)), none]) hX dX4_unmarked_48 (rfl : 48 + 1 = 49) rfl (fun _ => rfl) (fun x104 => ?_)
  exact wX4_unmarked_49 hX x104 Y102
set_option maxRecDepth 100000 in
theorem wX4_unmarked_13 {X : Cx} {D : va_G} {y : ClassId × ClassId × ClassId} {q : Nat → Nat} (hX : OKX X cX4_unmarked RX4 (rmk 1) (some .int) D y) : ∀ (n : Nat) (v2 : Int) (Y : St), GF X cX4_unmarked D (0, 0) (QI X D y (wM y q)) (fX4_unmarked_l13 n v2 Y) 13 [some (.ref (q 0)), none, some (.int (iz v2))] [] (wM y q Y) := by
  intro n
  induction n with
  | zero => intro v2 Y; exact g_none
  | succ n hk_13 =>
    intro v2 Y
    unfold fX4_unmarked_l13
    refine g_iload_n hX dX4_unmarked_13 (rfl : 13 + 1 = 14) rfl ?_
    refine g_bipush hX dX4_unmarked_14 (by decide) (rfl : 14 + 2 = 16) ?_
    refine g_icmp_ge (tgt := 32) hX dX4_unmarked_16 (by decide) (rfl : 16 + 3 = 19) ?_ ?_
    · refine g_drop (lv' := [some (.ref (q 0)), none, none]) 2 rfl ?_
      exact wX4_unmarked_32 hX  Y
    · refine g_aload_n hX dX4_unmarked_19 (rfl : 19 + 1 = 20) rfl ?_
      refine ge_M_X4_41_M hX dX4_unmarked_20 (rfl : 20 + 3 = 23) ?_
      refine g_iload_n hX dX4_unmarked_23 (rfl : 23 + 1 = 24) rfl ?_
      refine g_iconst hX dX4_unmarked_24 (rfl : 24 + 1 = 25) ?_
      refine as_M_M_17 hX dX4_unmarked_25 (rfl : 25 + 1 = 26) (fun Y105 => ?_)
      refine g_iinc (lv' := fun x106 => [some (.ref (q 0)), none, some (.int (iz x106))]) hX dX4_unmarked_26 (rfl : 26 + 3 = 29) rfl (fun _ => rfl) (fun x106 => ?_)
      refine g_goto (pc' := 13) hX dX4_unmarked_29 (by decide) ?_
      exact hk_13 x106 Y105
set_option maxRecDepth 100000 in
theorem kX4_unmarked (l : Launch) (D : va_G) (y : ClassId × ClassId × ClassId) (q : Nat → Nat) (Y : St) : CtI l D y yX4_unmarked cX4_unmarked 3 (some .int) (rmk 1) [.ref (q 0)] (wM y q) Y (fX4_unmarked Y) := by
  refine ctI_of (own := RX4) rfl (by decide) (cat1 rfl) rfl (fun X hl hX => ?_)
  subst hl
  show GF X cX4_unmarked D (0, 0) (QI X D y (wM y q)) (fX4_unmarked Y) 0 [some (.ref (q 0)), none, none] [] (wM y q Y)
  unfold fX4_unmarked
  refine g_aload_n hX dX4_unmarked_0 (rfl : 0 + 1 = 1) rfl ?_
  refine g_iconst hX dX4_unmarked_1 (rfl : 1 + 1 = 2) ?_
  refine g_iconst hX dX4_unmarked_2 (rfl : 2 + 1 = 3) ?_
  refine ci_MM hX (kX4_resting _ _ _ (q) _ _ _) mw_X4_124 (by decide) rfl rfl (Nat.le_of_ble_eq_true rfl) dX4_unmarked_3 (rfl : 3 + 3 = 6) (fun r2 Y1 => ?_)
  refine g_istore_n (lv' := fun x3 => [some (.ref (q 0)), some (.int (iz x3)), none]) hX dX4_unmarked_6 (rfl : 6 + 1 = 7) rfl (fun _ => rfl) (fun x3 => ?_)
  refine g_iload_n hX dX4_unmarked_7 (rfl : 7 + 1 = 8) rfl ?_
  refine g_if_ge (tgt := 49) hX dX4_unmarked_8 (by decide) (rfl : 8 + 3 = 11) ?_ ?_
  · exact wX4_unmarked_49 hX x3 Y1
  · refine g_iconst hX dX4_unmarked_11 (rfl : 11 + 1 = 12) ?_
    refine g_istore_n (lv' := fun x4 => [some (.ref (q 0)), some (.int (iz x3)), some (.int (iz x4))]) hX dX4_unmarked_12 (rfl : 12 + 1 = 13) rfl (fun _ => rfl) (fun x4 => ?_)
    refine g_drop (lv' := [some (.ref (q 0)), none, some (.int (iz x4))]) 1 rfl ?_
    exact wX4_unmarked_13 hX FU x4 Y1
set_option maxRecDepth 100000 in
theorem wX4_atPlace_41 {X : Cx} {D : va_G} {y : ClassId × ClassId × ClassId} {q : Nat → Nat} (hX : OKX X cX4_atPlace RX4 (rmk 0) (some .int) D y) (v2 : Int) (Y : St) : GF X cX4_atPlace D (0, 0) (QI X D y (wM y q)) (fX4_atPlace_j41 v2 Y) 41 [some (.ref (q 0)), none, some (.int (iz v2)), none] [] (wM y q Y) := by
  unfold fX4_atPlace_j41
  refine g_iload_n hX dX4_atPlace_41 (rfl : 41 + 1 = 42) rfl ?_
  exact g_iret hX dX4_atPlace_42
set_option maxRecDepth 100000 in
theorem wX4_atPlace_34 {X : Cx} {D : va_G} {y : ClassId × ClassId × ClassId} {q : Nat → Nat} (hX : OKX X cX4_atPlace RX4 (rmk 0) (some .int) D y) {k_4 : Int → Int → Int → (St) → Option (Int × (St))} (hk_4 : ∀ (v1 v2 v3 : Int) (Y : St), GF X cX4_atPlace D (0, 0) (QI X D y (wM y q)) (k_4 v1 v2 v3 Y) 4 [some (.ref (q 0)), some (.int (iz v1)), some (.int (iz v2)), some (.int (iz v3))] [] (wM y q Y)) (v1 v3 s0 : Int) (Y : St) : GF X cX4_atPlace D (0, 0) (QI X D y (wM y q)) (fX4_atPlace_j34 k_4 v1 v3 s0 Y) 34 [some (.ref (q 0)), some (.int (iz v1)), none, some (.int (iz v3))] [.int (iz s0)] (wM y q Y) := by
  unfold fX4_atPlace_j34
  refine g_istore_n (lv' := fun x101 => [some (.ref (q 0)), some (.int (iz v1)), some (.int (iz x101)), some (.int (iz v3))]) hX dX4_atPlace_34 (rfl : 34 + 1 = 35) rfl (fun _ => rfl) (fun x101 => ?_)
  refine g_iinc (lv' := fun x102 => [some (.ref (q 0)), some (.int (iz v1)), some (.int (iz x101)), some (.int (iz x102))]) hX dX4_atPlace_35 (rfl : 35 + 3 = 38) rfl (fun _ => rfl) (fun x102 => ?_)
  refine g_goto (pc' := 4) hX dX4_atPlace_38 (by decide) ?_
  exact hk_4 v1 x101 x102 Y
set_option maxRecDepth 100000 in
theorem wX4_atPlace_33 {X : Cx} {D : va_G} {y : ClassId × ClassId × ClassId} {q : Nat → Nat} (hX : OKX X cX4_atPlace RX4 (rmk 0) (some .int) D y) {k_4 : Int → Int → Int → (St) → Option (Int × (St))} (hk_4 : ∀ (v1 v2 v3 : Int) (Y : St), GF X cX4_atPlace D (0, 0) (QI X D y (wM y q)) (k_4 v1 v2 v3 Y) 4 [some (.ref (q 0)), some (.int (iz v1)), some (.int (iz v2)), some (.int (iz v3))] [] (wM y q Y)) (v1 v2 v3 : Int) (Y : St) : GF X cX4_atPlace D (0, 0) (QI X D y (wM y q)) (fX4_atPlace_j33 k_4 v1 v2 v3 Y) 33 [some (.ref (q 0)), some (.int (iz v1)), some (.int (iz v2)), some (.int (iz v3))] [] (wM y q Y) := by
  unfold fX4_atPlace_j33
  refine g_iload_n hX dX4_atPlace_33 (rfl : 33 + 1 = 34) rfl ?_
  refine g_drop (lv' := [some (.ref (q 0)), some (.int (iz v1)), none, some (.int (iz v3))]) 2 rfl ?_
  exact wX4_atPlace_34 hX hk_4 v1 v3 v2 Y
set_option maxRecDepth 100000 in
theorem wX4_atPlace_4 {X : Cx} {D : va_G} {y : ClassId × ClassId × ClassId} {q : Nat → Nat} (hX : OKX X cX4_atPlace RX4 (rmk 0) (some .int) D y) : ∀ (n : Nat) (v1 v2 v3 : Int) (Y : St), GF X cX4_atPlace D (0, 0) (QI X D y (wM y q)) (fX4_atPlace_l4 n v1 v2 v3 Y) 4 [some (.ref (q 0)), some (.int (iz v1)), some (.int (iz v2)), some (.int (iz v3))] [] (wM y q Y) := by
  intro n
  induction n with
  | zero => intro v1 v2 v3 Y; exact g_none
  | succ n hk_4 =>
    intro v1 v2 v3 Y
    unfold fX4_atPlace_l4
    refine g_iload_n hX dX4_atPlace_4 (rfl : 4 + 1 = 5) rfl ?_
    refine g_bipush hX dX4_atPlace_5 (by decide) (rfl : 5 + 2 = 7) ?_
    refine g_icmp_ge (tgt := 41) hX dX4_atPlace_7 (by decide) (rfl : 7 + 3 = 10) ?_ ?_
    · refine g_drop (lv' := [some (.ref (q 0)), none, some (.int (iz v2)), some (.int (iz v3))]) 1 rfl ?_
      refine g_drop (lv' := [some (.ref (q 0)), none, some (.int (iz v2)), none]) 3 rfl ?_
      exact wX4_atPlace_41 hX v2 Y
    · refine g_aload_n hX dX4_atPlace_10 (rfl : 10 + 1 = 11) rfl ?_
      refine ge_M_X4_28_M hX dX4_atPlace_11 (rfl : 11 + 3 = 14) ?_
      refine g_iload_n hX dX4_atPlace_14 (rfl : 14 + 1 = 15) rfl ?_
      refine al_M_M_13 hX dX4_atPlace_15 (rfl : 15 + 1 = 16) ?_
      refine g_if_eq (tgt := 33) hX dX4_atPlace_16 (by decide) (rfl : 16 + 3 = 19) ?_ ?_
      · exact wX4_atPlace_33 hX hk_4 v1 v2 v3 Y
      · refine g_aload_n hX dX4_atPlace_19 (rfl : 19 + 1 = 20) rfl ?_
        refine ge_M_X4_44_M hX dX4_atPlace_20 (rfl : 20 + 3 = 23) ?_
        refine g_iload_n hX dX4_atPlace_23 (rfl : 23 + 1 = 24) rfl ?_
        refine al_M_M_18 hX dX4_atPlace_24 (rfl : 24 + 1 = 25) ?_
        refine g_iload_n hX dX4_atPlace_25 (rfl : 25 + 1 = 26) rfl ?_
        refine g_icmp_ne (tgt := 33) hX dX4_atPlace_26 (by decide) (rfl : 26 + 3 = 29) ?_ ?_
        · exact wX4_atPlace_33 hX hk_4 v1 v2 v3 Y
        · refine g_iload_n hX dX4_atPlace_29 (rfl : 29 + 1 = 30) rfl ?_
          refine g_goto (pc' := 34) hX dX4_atPlace_30 (by decide) ?_
          refine g_drop (lv' := [some (.ref (q 0)), some (.int (iz v1)), none, some (.int (iz v3))]) 2 rfl ?_
          exact wX4_atPlace_34 hX hk_4 v1 v3 v3 Y
set_option maxRecDepth 100000 in
theorem kX4_atPlace (l : Launch) (D : va_G) (y : ClassId × ClassId × ClassId) (q : Nat → Nat) (Y : St) (a0 : Int) : CtI l D y yX4_atPlace cX4_atPlace 4 (some .int) (rmk 0) [.ref (q 0), .int (iz a0)] (wM y q) Y (fX4_atPlace Y a0) := by
  refine ctI_of (own := RX4) rfl (by decide) (cat1 rfl) rfl (fun X hl hX => ?_)
  subst hl
  show GF X cX4_atPlace D (0, 0) (QI X D y (wM y q)) (fX4_atPlace Y a0) 0 [some (.ref (q 0)), some (.int (iz a0)), none, none] [] (wM y q Y)
  unfold fX4_atPlace
  refine g_iconst hX dX4_atPlace_0 (rfl : 0 + 1 = 1) ?_
  refine g_istore_n (lv' := fun x1 => [some (.ref (q 0)), some (.int (iz a0)), some (.int (iz x1)), none]) hX dX4_atPlace_1 (rfl : 1 + 1 = 2) rfl (fun _ => rfl) (fun x1 => ?_)
  refine g_iconst hX dX4_atPlace_2 (rfl : 2 + 1 = 3) ?_
  refine g_istore_n (lv' := fun x2 => [some (.ref (q 0)), some (.int (iz a0)), some (.int (iz x1)), some (.int (iz x2))]) hX dX4_atPlace_3 (rfl : 3 + 1 = 4) rfl (fun _ => rfl) (fun x2 => ?_)
  exact wX4_atPlace_4 hX FU a0 x1 x2 Y
set_option maxRecDepth 100000 in
theorem wX4_atHand_52 {X : Cx} {D : va_G} {y : ClassId × ClassId × ClassId} {q : Nat → Nat} (hX : OKX X cX4_atHand RX4 (rmk 1) (some .int) D y) (v1 : Int) (Y : St) : GF X cX4_atHand D (0, 0) (QI X D y (wM y q)) (fX4_atHand_j52 v1 Y) 52 [some (.ref (q 0)), some (.int (iz v1))] [] (wM y q Y) := by
  unfold fX4_atHand_j52
  refine g_iload_n hX dX4_atHand_52 (rfl : 52 + 1 = 53) rfl ?_
  exact g_iret hX dX4_atHand_53
set_option maxRecDepth 100000 in
theorem wX4_atHand_9 {X : Cx} {D : va_G} {y : ClassId × ClassId × ClassId} {q : Nat → Nat} (hX : OKX X cX4_atHand RX4 (rmk 1) (some .int) D y) : ∀ (n : Nat) (v1 : Int) (Y : St), GF X cX4_atHand D (0, 0) (QI X D y (wM y q)) (fX4_atHand_l9 n v1 Y) 9 [some (.ref (q 0)), some (.int (iz v1))] [] (wM y q Y) := by
  intro n
  induction n with
  | zero => intro v1 Y; exact g_none
  | succ n hk_9 =>
    intro v1 Y
    unfold fX4_atHand_l9
    refine g_aload_n hX dX4_atHand_9 (rfl : 9 + 1 = 10) rfl ?_
    refine ge_M_X4_41_M hX dX4_atHand_10 (rfl : 10 + 3 = 13) ?_
    refine g_iload_n hX dX4_atHand_13 (rfl : 13 + 1 = 14) rfl ?_
    refine al_M_M_17 hX dX4_atHand_14 (rfl : 14 + 1 = 15) ?_
    refine g_if_eq (tgt := 52) hX dX4_atHand_15 (by decide) (rfl : 15 + 3 = 18) ?_ ?_
    · exact wX4_atHand_52 hX v1 Y
    · refine g_aload_n hX dX4_atHand_18 (rfl : 18 + 1 = 19) rfl ?_
      refine ge_M_X4_41_M hX dX4_atHand_19 (rfl : 19 + 3 = 22) ?_
      refine g_iload_n hX dX4_atHand_22 (rfl : 22 + 1 = 23) rfl ?_
      refine g_iconst hX dX4_atHand_23 (rfl : 23 + 1 = 24) ?_
      refine as_M_M_17 hX dX4_atHand_24 (rfl : 24 + 1 = 25) (fun Y101 => ?_)
      refine g_aload_n hX dX4_atHand_25 (rfl : 25 + 1 = 26) rfl ?_
      refine g_aload_n hX dX4_atHand_26 (rfl : 26 + 1 = 27) rfl ?_
      refine ge_M_X4_115_M hX dX4_atHand_27 (rfl : 27 + 3 = 30) ?_
      refine g_iconst hX dX4_atHand_30 (rfl : 30 + 1 = 31) ?_
      refine g_iadd hX dX4_atHand_31 (rfl : 31 + 1 = 32) ?_
      refine g_aload_n hX dX4_atHand_32 (rfl : 32 + 1 = 33) rfl ?_
      refine ge_M_X4_106_M hX dX4_atHand_33 (rfl : 33 + 3 = 36) ?_
      refine g_irem hX dX4_atHand_36 (rfl : 36 + 1 = 37) ?_
      refine pu_M_X4_115_M hX dX4_atHand_37 (rfl : 37 + 3 = 40) (fun Y102 => ?_)
      refine g_aload_n hX dX4_atHand_40 (rfl : 40 + 1 = 41) rfl ?_
      refine g_aload_n hX dX4_atHand_41 (rfl : 41 + 1 = 42) rfl ?_
      refine ge_M_X4_115_M hX dX4_atHand_42 (rfl : 42 + 3 = 45) ?_
      refine ci_MM hX (kX4_atPlace _ _ _ (q) _ _) mw_X4_128 (by decide) rfl rfl (Nat.le_of_ble_eq_true rfl) dX4_atHand_45 (rfl : 45 + 3 = 48) (fun r104 Y103 => ?_)
      refine g_istore_n (lv' := fun x105 => [some (.ref (q 0)), some (.int (iz x105))]) hX dX4_atHand_48 (rfl : 48 + 1 = 49) rfl (fun _ => rfl) (fun x105 => ?_)
      refine g_goto (pc' := 9) hX dX4_atHand_49 (by decide) ?_
      exact hk_9 x105 Y103
set_option maxRecDepth 100000 in
theorem kX4_atHand (l : Launch) (D : va_G) (y : ClassId × ClassId × ClassId) (q : Nat → Nat) (Y : St) : CtI l D y yX4_atHand cX4_atHand 2 (some .int) (rmk 1) [.ref (q 0)] (wM y q) Y (fX4_atHand Y) := by
  refine ctI_of (own := RX4) rfl (by decide) (cat1 rfl) rfl (fun X hl hX => ?_)
  subst hl
  show GF X cX4_atHand D (0, 0) (QI X D y (wM y q)) (fX4_atHand Y) 0 [some (.ref (q 0)), none] [] (wM y q Y)
  unfold fX4_atHand
  refine g_aload_n hX dX4_atHand_0 (rfl : 0 + 1 = 1) rfl ?_
  refine g_aload_n hX dX4_atHand_1 (rfl : 1 + 1 = 2) rfl ?_
  refine ge_M_X4_115_M hX dX4_atHand_2 (rfl : 2 + 3 = 5) ?_
  refine ci_MM hX (kX4_atPlace _ _ _ (q) _ _) mw_X4_128 (by decide) rfl rfl (Nat.le_of_ble_eq_true rfl) dX4_atHand_5 (rfl : 5 + 3 = 8) (fun r2 Y1 => ?_)
  refine g_istore_n (lv' := fun x3 => [some (.ref (q 0)), some (.int (iz x3))]) hX dX4_atHand_8 (rfl : 8 + 1 = 9) rfl (fun _ => rfl) (fun x3 => ?_)
  exact wX4_atHand_9 hX FU x3 Y1
set_option maxRecDepth 100000 in
theorem wX4_least_counts_80 {X : Cx} {D : va_G} {y : ClassId × ClassId × ClassId} {q : Nat → Nat} (hX : OKX X cX4_least RX4 (rmk 0) (some .int) D y) (v2 : Int) (Y : St) : GF X cX4_least D (0, 0) (QI X D y (wM y q)) (fX4_least_counts_j80 v2 Y) 80 [some (.ref (q 0)), some (.ref (q 10)), some (.int (iz v2)), none, none] [] (wM y q Y) := by
  unfold fX4_least_counts_j80
  refine g_iload_n hX dX4_least_80 (rfl : 80 + 1 = 81) rfl ?_
  exact g_iret hX dX4_least_81
set_option maxRecDepth 100000 in
theorem wX4_least_counts_73 {X : Cx} {D : va_G} {y : ClassId × ClassId × ClassId} {q : Nat → Nat} (hX : OKX X cX4_least RX4 (rmk 0) (some .int) D y) {k_4 : Int → Int → (St) → Option (Int × (St))} (hk_4 : ∀ (v2 v3 : Int) (Y : St), GF X cX4_least D (0, 0) (QI X D y (wM y q)) (k_4 v2 v3 Y) 4 [some (.ref (q 0)), some (.ref (q 10)), some (.int (iz v2)), some (.int (iz v3)), none] [] (wM y q Y)) (v3 s0 : Int) (Y : St) : GF X cX4_least D (0, 0) (QI X D y (wM y q)) (fX4_least_counts_j73 k_4 v3 s0 Y) 73 [some (.ref (q 0)), some (.ref (q 10)), none, some (.int (iz v3)), none] [.int (iz s0)] (wM y q Y) := by
  unfold fX4_least_counts_j73
  refine g_istore_n (lv' := fun x101 => [some (.ref (q 0)), some (.ref (q 10)), some (.int (iz x101)), some (.int (iz v3)), none]) hX dX4_least_73 (rfl : 73 + 1 = 74) rfl (fun _ => rfl) (fun x101 => ?_)
  refine g_iinc (lv' := fun x102 => [some (.ref (q 0)), some (.ref (q 10)), some (.int (iz x101)), some (.int (iz x102)), none]) hX dX4_least_74 (rfl : 74 + 3 = 77) rfl (fun _ => rfl) (fun x102 => ?_)
  refine g_goto (pc' := 4) hX dX4_least_77 (by decide) ?_
  exact hk_4 x101 x102 Y
set_option maxRecDepth 100000 in
theorem wX4_least_counts_61 {X : Cx} {D : va_G} {y : ClassId × ClassId × ClassId} {q : Nat → Nat} (hX : OKX X cX4_least RX4 (rmk 0) (some .int) D y) {k_4 : Int → Int → (St) → Option (Int × (St))} (hk_4 : ∀ (v2 v3 : Int) (Y : St), GF X cX4_least D (0, 0) (QI X D y (wM y q)) (k_4 v2 v3 Y) 4 [some (.ref (q 0)), some (.ref (q 10)), some (.int (iz v2)), some (.int (iz v3)), none] [] (wM y q Y)) (v2 v3 s0 : Int) (Y : St) : GF X cX4_least D (0, 0) (QI X D y (wM y q)) (fX4_least_counts_j61 k_4 v2 v3 s0 Y) 61 [some (.ref (q 0)), some (.ref (q 10)), some (.int (iz v2)), some (.int (iz v3)), none] [.int (iz s0)] (wM y q Y) := by
  unfold fX4_least_counts_j61
  refine g_istore (lv' := fun x103 => [some (.ref (q 0)), some (.ref (q 10)), some (.int (iz v2)), some (.int (iz v3)), some (.int (iz x103))]) hX dX4_least_61 (rfl : 61 + 2 = 63) rfl (fun _ => rfl) (fun x103 => ?_)
  refine g_iload hX dX4_least_63 (rfl : 63 + 2 = 65) rfl ?_
  refine g_if_eq (tgt := 72) hX dX4_least_65 (by decide) (rfl : 65 + 3 = 68) ?_ ?_
  · refine g_iload_n hX dX4_least_72 (rfl : 72 + 1 = 73) rfl ?_
    refine g_drop (lv' := [some (.ref (q 0)), some (.ref (q 10)), none, some (.int (iz v3)), some (.int (iz x103))]) 2 rfl ?_
    refine g_drop (lv' := [some (.ref (q 0)), some (.ref (q 10)), none, some (.int (iz v3)), none]) 4 rfl ?_
    exact wX4_least_counts_73 hX hk_4 v3 v2 Y
  · refine g_iload_n hX dX4_least_68 (rfl : 68 + 1 = 69) rfl ?_
    refine g_goto (pc' := 73) hX dX4_least_69 (by decide) ?_
    refine g_drop (lv' := [some (.ref (q 0)), some (.ref (q 10)), none, some (.int (iz v3)), some (.int (iz x103))]) 2 rfl ?_
    refine g_drop (lv' := [some (.ref (q 0)), some (.ref (q 10)), none, some (.int (iz v3)), none]) 4 rfl ?_
    exact wX4_least_counts_73 hX hk_4 v3 v3 Y
set_option maxRecDepth 100000 in
theorem wX4_least_counts_60 {X : Cx} {D : va_G} {y : ClassId × ClassId × ClassId} {q : Nat → Nat} (hX : OKX X cX4_least RX4 (rmk 0) (some .int) D y) {k_4 : Int → Int → (St) → Option (Int × (St))} (hk_4 : ∀ (v2 v3 : Int) (Y : St), GF X cX4_least D (0, 0) (QI X D y (wM y q)) (k_4 v2 v3 Y) 4 [some (.ref (q 0)), some (.ref (q 10)), some (.int (iz v2)), some (.int (iz v3)), none] [] (wM y q Y)) (v2 v3 : Int) (Y : St) : GF X cX4_least D (0, 0) (QI X D y (wM y q)) (fX4_least_counts_j60 k_4 v2 v3 Y) 60 [some (.ref (q 0)), some (.ref (q 10)), some (.int (iz v2)), some (.int (iz v3)), none] [] (wM y q Y) := by
  unfold fX4_least_counts_j60
  refine g_iconst hX dX4_least_60 (rfl : 60 + 1 = 61) ?_
  exact wX4_least_counts_61 hX hk_4 v2 v3 0 Y
set_option maxRecDepth 100000 in
theorem wX4_least_counts_56 {X : Cx} {D : va_G} {y : ClassId × ClassId × ClassId} {q : Nat → Nat} (hX : OKX X cX4_least RX4 (rmk 0) (some .int) D y) {k_4 : Int → Int → (St) → Option (Int × (St))} (hk_4 : ∀ (v2 v3 : Int) (Y : St), GF X cX4_least D (0, 0) (QI X D y (wM y q)) (k_4 v2 v3 Y) 4 [some (.ref (q 0)), some (.ref (q 10)), some (.int (iz v2)), some (.int (iz v3)), none] [] (wM y q Y)) (v2 v3 : Int) (Y : St) : GF X cX4_least D (0, 0) (QI X D y (wM y q)) (fX4_least_counts_j56 k_4 v2 v3 Y) 56 [some (.ref (q 0)), some (.ref (q 10)), some (.int (iz v2)), some (.int (iz v3)), none] [] (wM y q Y) := by
  unfold fX4_least_counts_j56
  refine g_iconst hX dX4_least_56 (rfl : 56 + 1 = 57) ?_
  refine g_goto (pc' := 61) hX dX4_least_57 (by decide) ?_
  exact wX4_least_counts_61 hX hk_4 v2 v3 1 Y
set_option maxRecDepth 100000 in
theorem wX4_least_counts_4 {X : Cx} {D : va_G} {y : ClassId × ClassId × ClassId} {q : Nat → Nat} (hX : OKX X cX4_least RX4 (rmk 0) (some .int) D y) : ∀ (n : Nat) (v2 v3 : Int) (Y : St), GF X cX4_least D (0, 0) (QI X D y (wM y q)) (fX4_least_counts_l4 n v2 v3 Y) 4 [some (.ref (q 0)), some (.ref (q 10)), some (.int (iz v2)), some (.int (iz v3)), none] [] (wM y q Y) := by
  intro n
  induction n with
  | zero => intro v2 v3 Y; exact g_none
  | succ n hk_4 =>
    intro v2 v3 Y
    unfold fX4_least_counts_l4
    refine g_iload_n hX dX4_least_4 (rfl : 4 + 1 = 5) rfl ?_
    refine g_bipush hX dX4_least_5 (by decide) (rfl : 5 + 2 = 7) ?_
    refine g_icmp_ge (tgt := 80) hX dX4_least_7 (by decide) (rfl : 7 + 3 = 10) ?_ ?_
    · refine g_drop (lv' := [some (.ref (q 0)), some (.ref (q 10)), some (.int (iz v2)), none, none]) 3 rfl ?_
      exact wX4_least_counts_80 hX v2 Y
    · refine g_aload_n hX dX4_least_10 (rfl : 10 + 1 = 11) rfl ?_
      refine ge_M_X4_28_M hX dX4_least_11 (rfl : 11 + 3 = 14) ?_
      refine g_iload_n hX dX4_least_14 (rfl : 14 + 1 = 15) rfl ?_
      refine al_M_M_13 hX dX4_least_15 (rfl : 15 + 1 = 16) ?_
      refine g_if_eq (tgt := 60) hX dX4_least_16 (by decide) (rfl : 16 + 3 = 19) ?_ ?_
      · exact wX4_least_counts_60 hX hk_4 v2 v3 Y
      · refine g_iload_n hX dX4_least_19 (rfl : 19 + 1 = 20) rfl ?_
        refine g_if_lt (tgt := 56) hX dX4_least_20 (by decide) (rfl : 20 + 3 = 23) ?_ ?_
        · exact wX4_least_counts_56 hX hk_4 v2 v3 Y
        · refine g_aload_n hX dX4_least_23 (rfl : 23 + 1 = 24) rfl ?_
          refine g_iload_n hX dX4_least_24 (rfl : 24 + 1 = 25) rfl ?_
          refine al_M_M_16 hX dX4_least_25 (rfl : 25 + 1 = 26) ?_
          refine g_aload_n hX dX4_least_26 (rfl : 26 + 1 = 27) rfl ?_
          refine g_iload_n hX dX4_least_27 (rfl : 27 + 1 = 28) rfl ?_
          refine al_M_M_16 hX dX4_least_28 (rfl : 28 + 1 = 29) ?_
          refine g_icmp_lt (tgt := 56) hX dX4_least_29 (by decide) (rfl : 29 + 3 = 32) ?_ ?_
          · exact wX4_least_counts_56 hX hk_4 v2 v3 Y
          · refine g_aload_n hX dX4_least_32 (rfl : 32 + 1 = 33) rfl ?_
            refine g_iload_n hX dX4_least_33 (rfl : 33 + 1 = 34) rfl ?_
            refine al_M_M_16 hX dX4_least_34 (rfl : 34 + 1 = 35) ?_
            refine g_aload_n hX dX4_least_35 (rfl : 35 + 1 = 36) rfl ?_
            refine g_iload_n hX dX4_least_36 (rfl : 36 + 1 = 37) rfl ?_
            refine al_M_M_16 hX dX4_least_37 (rfl : 37 + 1 = 38) ?_
            refine g_icmp_ne (tgt := 60) hX dX4_least_38 (by decide) (rfl : 38 + 3 = 41) ?_ ?_
            · exact wX4_least_counts_60 hX hk_4 v2 v3 Y
            · refine g_aload_n hX dX4_least_41 (rfl : 41 + 1 = 42) rfl ?_
              refine ge_M_X4_35_M hX dX4_least_42 (rfl : 42 + 3 = 45) ?_
              refine g_iload_n hX dX4_least_45 (rfl : 45 + 1 = 46) rfl ?_
              refine al_M_M_15 hX dX4_least_46 (rfl : 46 + 1 = 47) ?_
              refine g_aload_n hX dX4_least_47 (rfl : 47 + 1 = 48) rfl ?_
              refine ge_M_X4_35_M hX dX4_least_48 (rfl : 48 + 3 = 51) ?_
              refine g_iload_n hX dX4_least_51 (rfl : 51 + 1 = 52) rfl ?_
              refine al_M_M_15 hX dX4_least_52 (rfl : 52 + 1 = 53) ?_
              refine g_icmp_ge (tgt := 60) hX dX4_least_53 (by decide) (rfl : 53 + 3 = 56) ?_ ?_
              · exact wX4_least_counts_60 hX hk_4 v2 v3 Y
              · exact wX4_least_counts_56 hX hk_4 v2 v3 Y
set_option maxRecDepth 100000 in
theorem kX4_least_counts (l : Launch) (D : va_G) (y : ClassId × ClassId × ClassId) (q : Nat → Nat) (Y : St) : CtI l D y yX4_least cX4_least 5 (some .int) (rmk 0) [.ref (q 0), .ref (q 10)] (wM y q) Y (fX4_least_counts Y) := by
  refine ctI_of (own := RX4) rfl (by decide) (cat1 rfl) rfl (fun X hl hX => ?_)
  subst hl
  show GF X cX4_least D (0, 0) (QI X D y (wM y q)) (fX4_least_counts Y) 0 [some (.ref (q 0)), some (.ref (q 10)), none, none, none] [] (wM y q Y)
  unfold fX4_least_counts
  refine g_iconst hX dX4_least_0 (rfl : 0 + 1 = 1) ?_
  refine g_istore_n (lv' := fun x1 => [some (.ref (q 0)), some (.ref (q 10)), some (.int (iz x1)), none, none]) hX dX4_least_1 (rfl : 1 + 1 = 2) rfl (fun _ => rfl) (fun x1 => ?_)
  refine g_iconst hX dX4_least_2 (rfl : 2 + 1 = 3) ?_
  refine g_istore_n (lv' := fun x2 => [some (.ref (q 0)), some (.ref (q 10)), some (.int (iz x1)), some (.int (iz x2)), none]) hX dX4_least_3 (rfl : 3 + 1 = 4) rfl (fun _ => rfl) (fun x2 => ?_)
  exact wX4_least_counts_4 hX FU x1 x2 Y
set_option maxRecDepth 100000 in
theorem wX4_least_credit_80 {X : Cx} {D : va_G} {y : ClassId × ClassId × ClassId} {q : Nat → Nat} (hX : OKX X cX4_least RX4 (rmk 0) (some .int) D y) (v2 : Int) (Y : St) : GF X cX4_least D (0, 0) (QI X D y (wM y q)) (fX4_least_credit_j80 v2 Y) 80 [some (.ref (q 0)), some (.ref (q 15)), some (.int (iz v2)), none, none] [] (wM y q Y) := by
  unfold fX4_least_credit_j80
  refine g_iload_n hX dX4_least_80 (rfl : 80 + 1 = 81) rfl ?_
  exact g_iret hX dX4_least_81
set_option maxRecDepth 100000 in
theorem wX4_least_credit_73 {X : Cx} {D : va_G} {y : ClassId × ClassId × ClassId} {q : Nat → Nat} (hX : OKX X cX4_least RX4 (rmk 0) (some .int) D y) {k_4 : Int → Int → (St) → Option (Int × (St))} (hk_4 : ∀ (v2 v3 : Int) (Y : St), GF X cX4_least D (0, 0) (QI X D y (wM y q)) (k_4 v2 v3 Y) 4 [some (.ref (q 0)), some (.ref (q 15)), some (.int (iz v2)), some (.int (iz v3)), none] [] (wM y q Y)) (v3 s0 : Int) (Y : St) : GF X cX4_least D (0, 0) (QI X D y (wM y q)) (fX4_least_credit_j73 k_4 v3 s0 Y) 73 [some (.ref (q 0)), some (.ref (q 15)), none, some (.int (iz v3)), none] [.int (iz s0)] (wM y q Y) := by
  unfold fX4_least_credit_j73
  refine g_istore_n (lv' := fun x101 => [some (.ref (q 0)), some (.ref (q 15)), some (.int (iz x101)), some (.int (iz v3)), none]) hX dX4_least_73 (rfl : 73 + 1 = 74) rfl (fun _ => rfl) (fun x101 => ?_)
  refine g_iinc (lv' := fun x102 => [some (.ref (q 0)), some (.ref (q 15)), some (.int (iz x101)), some (.int (iz x102)), none]) hX dX4_least_74 (rfl : 74 + 3 = 77) rfl (fun _ => rfl) (fun x102 => ?_)
  refine g_goto (pc' := 4) hX dX4_least_77 (by decide) ?_
  exact hk_4 x101 x102 Y
set_option maxRecDepth 100000 in
theorem wX4_least_credit_61 {X : Cx} {D : va_G} {y : ClassId × ClassId × ClassId} {q : Nat → Nat} (hX : OKX X cX4_least RX4 (rmk 0) (some .int) D y) {k_4 : Int → Int → (St) → Option (Int × (St))} (hk_4 : ∀ (v2 v3 : Int) (Y : St), GF X cX4_least D (0, 0) (QI X D y (wM y q)) (k_4 v2 v3 Y) 4 [some (.ref (q 0)), some (.ref (q 15)), some (.int (iz v2)), some (.int (iz v3)), none] [] (wM y q Y)) (v2 v3 s0 : Int) (Y : St) : GF X cX4_least D (0, 0) (QI X D y (wM y q)) (fX4_least_credit_j61 k_4 v2 v3 s0 Y) 61 [some (.ref (q 0)), some (.ref (q 15)), some (.int (iz v2)), some (.int (iz v3)), none] [.int (iz s0)] (wM y q Y) := by
  unfold fX4_least_credit_j61
  refine g_istore (lv' := fun x103 => [some (.ref (q 0)), some (.ref (q 15)), some (.int (iz v2)), some (.int (iz v3)), some (.int (iz x103))]) hX dX4_least_61 (rfl : 61 + 2 = 63) rfl (fun _ => rfl) (fun x103 => ?_)
  refine g_iload hX dX4_least_63 (rfl : 63 + 2 = 65) rfl ?_
  refine g_if_eq (tgt := 72) hX dX4_least_65 (by decide) (rfl : 65 + 3 = 68) ?_ ?_
  · refine g_iload_n hX dX4_least_72 (rfl : 72 + 1 = 73) rfl ?_
    refine g_drop (lv' := [some (.ref (q 0)), some (.ref (q 15)), none, some (.int (iz v3)), some (.int (iz x103))]) 2 rfl ?_
    refine g_drop (lv' := [some (.ref (q 0)), some (.ref (q 15)), none, some (.int (iz v3)), none]) 4 rfl ?_
    exact wX4_least_credit_73 hX hk_4 v3 v2 Y
  · refine g_iload_n hX dX4_least_68 (rfl : 68 + 1 = 69) rfl ?_
    refine g_goto (pc' := 73) hX dX4_least_69 (by decide) ?_
    refine g_drop (lv' := [some (.ref (q 0)), some (.ref (q 15)), none, some (.int (iz v3)), some (.int (iz x103))]) 2 rfl ?_
    refine g_drop (lv' := [some (.ref (q 0)), some (.ref (q 15)), none, some (.int (iz v3)), none]) 4 rfl ?_
    exact wX4_least_credit_73 hX hk_4 v3 v3 Y
set_option maxRecDepth 100000 in
theorem wX4_least_credit_60 {X : Cx} {D : va_G} {y : ClassId × ClassId × ClassId} {q : Nat → Nat} (hX : OKX X cX4_least RX4 (rmk 0) (some .int) D y) {k_4 : Int → Int → (St) → Option (Int × (St))} (hk_4 : ∀ (v2 v3 : Int) (Y : St), GF X cX4_least D (0, 0) (QI X D y (wM y q)) (k_4 v2 v3 Y) 4 [some (.ref (q 0)), some (.ref (q 15)), some (.int (iz v2)), some (.int (iz v3)), none] [] (wM y q Y)) (v2 v3 : Int) (Y : St) : GF X cX4_least D (0, 0) (QI X D y (wM y q)) (fX4_least_credit_j60 k_4 v2 v3 Y) 60 [some (.ref (q 0)), some (.ref (q 15)), some (.int (iz v2)), some (.int (iz v3)), none] [] (wM y q Y) := by
  unfold fX4_least_credit_j60
  refine g_iconst hX dX4_least_60 (rfl : 60 + 1 = 61) ?_
  exact wX4_least_credit_61 hX hk_4 v2 v3 0 Y
set_option maxRecDepth 100000 in
theorem wX4_least_credit_56 {X : Cx} {D : va_G} {y : ClassId × ClassId × ClassId} {q : Nat → Nat} (hX : OKX X cX4_least RX4 (rmk 0) (some .int) D y) {k_4 : Int → Int → (St) → Option (Int × (St))} (hk_4 : ∀ (v2 v3 : Int) (Y : St), GF X cX4_least D (0, 0) (QI X D y (wM y q)) (k_4 v2 v3 Y) 4 [some (.ref (q 0)), some (.ref (q 15)), some (.int (iz v2)), some (.int (iz v3)), none] [] (wM y q Y)) (v2 v3 : Int) (Y : St) : GF X cX4_least D (0, 0) (QI X D y (wM y q)) (fX4_least_credit_j56 k_4 v2 v3 Y) 56 [some (.ref (q 0)), some (.ref (q 15)), some (.int (iz v2)), some (.int (iz v3)), none] [] (wM y q Y) := by
  unfold fX4_least_credit_j56
  refine g_iconst hX dX4_least_56 (rfl : 56 + 1 = 57) ?_
  refine g_goto (pc' := 61) hX dX4_least_57 (by decide) ?_
  exact wX4_least_credit_61 hX hk_4 v2 v3 1 Y
set_option maxRecDepth 100000 in
theorem wX4_least_credit_4 {X : Cx} {D : va_G} {y : ClassId × ClassId × ClassId} {q : Nat → Nat} (hX : OKX X cX4_least RX4 (rmk 0) (some .int) D y) : ∀ (n : Nat) (v2 v3 : Int) (Y : St), GF X cX4_least D (0, 0) (QI X D y (wM y q)) (fX4_least_credit_l4 n v2 v3 Y) 4 [some (.ref (q 0)), some (.ref (q 15)), some (.int (iz v2)), some (.int (iz v3)), none] [] (wM y q Y) := by
  intro n
  induction n with
  | zero => intro v2 v3 Y; exact g_none
  | succ n hk_4 =>
    intro v2 v3 Y
    unfold fX4_least_credit_l4
    refine g_iload_n hX dX4_least_4 (rfl : 4 + 1 = 5) rfl ?_
    refine g_bipush hX dX4_least_5 (by decide) (rfl : 5 + 2 = 7) ?_
    refine g_icmp_ge (tgt := 80) hX dX4_least_7 (by decide) (rfl : 7 + 3 = 10) ?_ ?_
    · refine g_drop (lv' := [some (.ref (q 0)), some (.ref (q 15)), some (.int (iz v2)), none, none]) 3 rfl ?_
      exact wX4_least_credit_80 hX v2 Y
    · refine g_aload_n hX dX4_least_10 (rfl : 10 + 1 = 11) rfl ?_
      refine ge_M_X4_28_M hX dX4_least_11 (rfl : 11 + 3 = 14) ?_
      refine g_iload_n hX dX4_least_14 (rfl : 14 + 1 = 15) rfl ?_
      refine al_M_M_13 hX dX4_least_15 (rfl : 15 + 1 = 16) ?_
      refine g_if_eq (tgt := 60) hX dX4_least_16 (by decide) (rfl : 16 + 3 = 19) ?_ ?_
      · exact wX4_least_credit_60 hX hk_4 v2 v3 Y
      · refine g_iload_n hX dX4_least_19 (rfl : 19 + 1 = 20) rfl ?_
        refine g_if_lt (tgt := 56) hX dX4_least_20 (by decide) (rfl : 20 + 3 = 23) ?_ ?_
        · exact wX4_least_credit_56 hX hk_4 v2 v3 Y
        · refine g_aload_n hX dX4_least_23 (rfl : 23 + 1 = 24) rfl ?_
          refine g_iload_n hX dX4_least_24 (rfl : 24 + 1 = 25) rfl ?_
          refine al_M_M_21 hX dX4_least_25 (rfl : 25 + 1 = 26) ?_
          refine g_aload_n hX dX4_least_26 (rfl : 26 + 1 = 27) rfl ?_
          refine g_iload_n hX dX4_least_27 (rfl : 27 + 1 = 28) rfl ?_
          refine al_M_M_21 hX dX4_least_28 (rfl : 28 + 1 = 29) ?_
          refine g_icmp_lt (tgt := 56) hX dX4_least_29 (by decide) (rfl : 29 + 3 = 32) ?_ ?_
          · exact wX4_least_credit_56 hX hk_4 v2 v3 Y
          · refine g_aload_n hX dX4_least_32 (rfl : 32 + 1 = 33) rfl ?_
            refine g_iload_n hX dX4_least_33 (rfl : 33 + 1 = 34) rfl ?_
            refine al_M_M_21 hX dX4_least_34 (rfl : 34 + 1 = 35) ?_
            refine g_aload_n hX dX4_least_35 (rfl : 35 + 1 = 36) rfl ?_
            refine g_iload_n hX dX4_least_36 (rfl : 36 + 1 = 37) rfl ?_
            refine al_M_M_21 hX dX4_least_37 (rfl : 37 + 1 = 38) ?_
            refine g_icmp_ne (tgt := 60) hX dX4_least_38 (by decide) (rfl : 38 + 3 = 41) ?_ ?_
            · exact wX4_least_credit_60 hX hk_4 v2 v3 Y
            · refine g_aload_n hX dX4_least_41 (rfl : 41 + 1 = 42) rfl ?_
              refine ge_M_X4_35_M hX dX4_least_42 (rfl : 42 + 3 = 45) ?_
              refine g_iload_n hX dX4_least_45 (rfl : 45 + 1 = 46) rfl ?_
              refine al_M_M_15 hX dX4_least_46 (rfl : 46 + 1 = 47) ?_
              refine g_aload_n hX dX4_least_47 (rfl : 47 + 1 = 48) rfl ?_
              refine ge_M_X4_35_M hX dX4_least_48 (rfl : 48 + 3 = 51) ?_
              refine g_iload_n hX dX4_least_51 (rfl : 51 + 1 = 52) rfl ?_
              refine al_M_M_15 hX dX4_least_52 (rfl : 52 + 1 = 53) ?_
              refine g_icmp_ge (tgt := 60) hX dX4_least_53 (by decide) (rfl : 53 + 3 = 56) ?_ ?_
              · exact wX4_least_credit_60 hX hk_4 v2 v3 Y
              · exact wX4_least_credit_56 hX hk_4 v2 v3 Y
set_option maxRecDepth 100000 in
theorem kX4_least_credit (l : Launch) (D : va_G) (y : ClassId × ClassId × ClassId) (q : Nat → Nat) (Y : St) : CtI l D y yX4_least cX4_least 5 (some .int) (rmk 0) [.ref (q 0), .ref (q 15)] (wM y q) Y (fX4_least_credit Y) := by
  refine ctI_of (own := RX4) rfl (by decide) (cat1 rfl) rfl (fun X hl hX => ?_)
  subst hl
  show GF X cX4_least D (0, 0) (QI X D y (wM y q)) (fX4_least_credit Y) 0 [some (.ref (q 0)), some (.ref (q 15)), none, none, none] [] (wM y q Y)
  unfold fX4_least_credit
  refine g_iconst hX dX4_least_0 (rfl : 0 + 1 = 1) ?_
  refine g_istore_n (lv' := fun x1 => [some (.ref (q 0)), some (.ref (q 15)), some (.int (iz x1)), none, none]) hX dX4_least_1 (rfl : 1 + 1 = 2) rfl (fun _ => rfl) (fun x1 => ?_)
  refine g_iconst hX dX4_least_2 (rfl : 2 + 1 = 3) ?_
  refine g_istore_n (lv' := fun x2 => [some (.ref (q 0)), some (.ref (q 15)), some (.int (iz x1)), some (.int (iz x2)), none]) hX dX4_least_3 (rfl : 3 + 1 = 4) rfl (fun _ => rfl) (fun x2 => ?_)
  exact wX4_least_credit_4 hX FU x1 x2 Y
set_option maxRecDepth 100000 in
theorem wX4_toBook_23 {X : Cx} {D : va_G} {y : ClassId × ClassId × ClassId} {q : Nat → Nat} (hX : OKX X cX4_toBook RX4 (rmk 1) none D y) (v1 v2 v3 : Int) (Y : St) : GF X cX4_toBook D (0, 0) (QV X D y (wM y q)) (fX4_toBook_j23 v1 v2 v3 Y) 23 [some (.ref (q 0)), some (.int (iz v1)), some (.int (iz v2)), some (.int (iz v3))] [] (wM y q Y) := by
  unfold fX4_toBook_j23
  refine g_aload_n hX dX4_toBook_23 (rfl : 23 + 1 = 24) rfl ?_
  refine ge_M_X4_47_M hX dX4_toBook_24 (rfl : 24 + 3 = 27) ?_
  refine g_iload_n hX dX4_toBook_27 (rfl : 27 + 1 = 28) rfl ?_
  refine g_iload_n hX dX4_toBook_28 (rfl : 28 + 1 = 29) rfl ?_
  refine as_M_M_19 hX dX4_toBook_29 (rfl : 29 + 1 = 30) (fun Y101 => ?_)
  refine g_aload_n hX dX4_toBook_30 (rfl : 30 + 1 = 31) rfl ?_
  refine ge_M_X4_50_M hX dX4_toBook_31 (rfl : 31 + 3 = 34) ?_
  refine g_iload_n hX dX4_toBook_34 (rfl : 34 + 1 = 35) rfl ?_
  refine g_iload_n hX dX4_toBook_35 (rfl : 35 + 1 = 36) rfl ?_
  refine as_M_M_20 hX dX4_toBook_36 (rfl : 36 + 1 = 37) (fun Y102 => ?_)
  exact g_vret hX dX4_toBook_37
set_option maxRecDepth 100000 in
theorem kX4_toBook (l : Launch) (D : va_G) (y : ClassId × ClassId × ClassId) (q : Nat → Nat) (Y : St) (a0 a1 a2 : Int) : CtV l D y yX4_toBook cX4_toBook 4 (rmk 1) [.ref (q 0), .int (iz a0), .int (iz a1), .int (iz a2)] (wM y q) Y (fX4_toBook Y a0 a1 a2) := by
  refine ctV_of (own := RX4) rfl (by decide) (cat1 rfl) rfl (fun X hl hX => ?_)
  subst hl
  show GF X cX4_toBook D (0, 0) (QV X D y (wM y q)) (fX4_toBook Y a0 a1 a2) 0 [some (.ref (q 0)), some (.int (iz a0)), some (.int (iz a1)), some (.int (iz a2))] [] (wM y q Y)
  unfold fX4_toBook
  refine g_aload_n hX dX4_toBook_0 (rfl : 0 + 1 = 1) rfl ?_
  refine g_iload_n hX dX4_toBook_1 (rfl : 1 + 1 = 2) rfl ?_
  refine ci_MM hX (kX4_partSize _ _ _ (q) _ _) mw_X4_132 (by decide) rfl rfl (Nat.le_of_ble_eq_true rfl) dX4_toBook_2 (rfl : 2 + 3 = 5) (fun r2 Y1 => ?_)
  refine g_aload_n hX dX4_toBook_5 (rfl : 5 + 1 = 6) rfl ?_
  refine ge_M_X4_106_M hX dX4_toBook_6 (rfl : 6 + 3 = 9) ?_
  refine g_icmp_ne (tgt := 23) hX dX4_toBook_9 (by decide) (rfl : 9 + 3 = 12) ?_ ?_
  · exact wX4_toBook_23 hX a0 a1 a2 Y1
  · refine g_aload_n hX dX4_toBook_12 (rfl : 12 + 1 = 13) rfl ?_
    refine ge_M_X4_47_M hX dX4_toBook_13 (rfl : 13 + 3 = 16) ?_
    refine g_aload_n hX dX4_toBook_16 (rfl : 16 + 1 = 17) rfl ?_
    refine g_iload_n hX dX4_toBook_17 (rfl : 17 + 1 = 18) rfl ?_
    refine ci_MM hX (kX4_firstIn _ _ _ (q) _ _) mw_X4_135 (by decide) rfl rfl (Nat.le_of_ble_eq_true rfl) dX4_toBook_18 (rfl : 18 + 3 = 21) (fun r4 Y3 => ?_)
    refine g_iconst hX dX4_toBook_21 (rfl : 21 + 1 = 22) ?_
    refine as_M_M_19 hX dX4_toBook_22 (rfl : 22 + 1 = 23) (fun Y5 => ?_)
    exact wX4_toBook_23 hX a0 a1 a2 Y5
set_option maxRecDepth 100000 in
theorem wX4_ofTwoParts_114 {X : Cx} {D : va_G} {y : ClassId × ClassId × ClassId} {q : Nat → Nat} (hX : OKX X cX4_ofTwoParts RX4 (rmk 2) (some .int) D y) (v5 : Int) (Y : St) : GF X cX4_ofTwoParts D (0, 0) (QI X D y (wM y q)) (fX4_ofTwoParts_j114 v5 Y) 114 [some (.ref (q 0)), none, none, none, none, some (.int (iz v5))] [] (wM y q Y) := by
  unfold fX4_ofTwoParts_j114
  refine g_iload hX dX4_ofTwoParts_114 (rfl : 114 + 2 = 116) rfl ?_
  exact g_iret hX dX4_ofTwoParts_116
set_option maxRecDepth 100000 in
theorem wX4_ofTwoParts_71 {X : Cx} {D : va_G} {y : ClassId × ClassId × ClassId} {q : Nat → Nat} (hX : OKX X cX4_ofTwoParts RX4 (rmk 2) (some .int) D y) (v1 v4 s0 : Int) (Y : St) : GF X cX4_ofTwoParts D (0, 0) (QI X D y (wM y q)) (fX4_ofTwoParts_j71 v1 v4 s0 Y) 71 [some (.ref (q 0)), some (.int (iz v1)), none, none, some (.int (iz v4)), none] [.int (iz s0)] (wM y q Y) := by
  unfold fX4_ofTwoParts_j71
  refine g_istore (lv' := fun x101 => [some (.ref (q 0)), some (.int (iz v1)), none, none, some (.int (iz v4)), some (.int (iz x101))]) hX dX4_ofTwoParts_71 (rfl : 71 + 2 = 73) rfl (fun _ => rfl) (fun x101 => ?_)
  refine g_aload_n hX dX4_ofTwoParts_73 (rfl : 73 + 1 = 74) rfl ?_
  refine ge_M_X4_47_M hX dX4_ofTwoParts_74 (rfl : 74 + 3 = 77) ?_
  refine g_iload hX dX4_ofTwoParts_77 (rfl : 77 + 2 = 79) rfl ?_
  refine g_iconst hX dX4_ofTwoParts_79 (rfl : 79 + 1 = 80) ?_
  refine as_M_M_19 hX dX4_ofTwoParts_80 (rfl : 80 + 1 = 81) (fun Y102 => ?_)
  refine g_iload hX dX4_ofTwoParts_81 (rfl : 81 + 2 = 83) rfl ?_
  refine g_if_eq (tgt := 97) hX dX4_ofTwoParts_83 (by decide) (rfl : 83 + 3 = 86) ?_ ?_
  · refine g_aload_n hX dX4_ofTwoParts_97 (rfl : 97 + 1 = 98) rfl ?_
    refine ge_M_X4_103_M hX dX4_ofTwoParts_98 (rfl : 98 + 3 = 101) ?_
    refine g_bipush hX dX4_ofTwoParts_101 (by decide) (rfl : 101 + 2 = 103) ?_
    refine g_icmp_ne (tgt := 114) hX dX4_ofTwoParts_103 (by decide) (rfl : 103 + 3 = 106) ?_ ?_
    · refine g_drop (lv' := [some (.ref (q 0)), none, none, none, some (.int (iz v4)), some (.int (iz x101))]) 1 rfl ?_
      refine g_drop (lv' := [some (.ref (q 0)), none, none, none, none, some (.int (iz x101))]) 4 rfl ?_
      exact wX4_ofTwoParts_114 hX x101 Y102
    · refine g_aload_n hX dX4_ofTwoParts_106 (rfl : 106 + 1 = 107) rfl ?_
      refine g_iload hX dX4_ofTwoParts_107 (rfl : 107 + 2 = 109) rfl ?_
      refine g_iconst hX dX4_ofTwoParts_109 (rfl : 109 + 1 = 110) ?_
      refine g_iload_n hX dX4_ofTwoParts_110 (rfl : 110 + 1 = 111) rfl ?_
      refine cv_MM hX (kX4_toBook _ _ _ (q) _ _ _ _) mw_X4_138 (by decide) rfl rfl (Nat.le_of_ble_eq_true rfl) dX4_ofTwoParts_111 (rfl : 111 + 3 = 114) (fun Y103 => ?_)
      refine g_drop (lv' := [some (.ref (q 0)), none, none, none, some (.int (iz v4)), some (.int (iz x101))]) 1 rfl ?_
      refine g_drop (lv' := [some (.ref (q 0)), none, none, none, none, some (.int (iz x101))]) 4 rfl ?_
      exact wX4_ofTwoParts_114 hX x101 Y103
  · refine g_aload_n hX dX4_ofTwoParts_86 (rfl : 86 + 1 = 87) rfl ?_
    refine g_iload hX dX4_ofTwoParts_87 (rfl : 87 + 2 = 89) rfl ?_
    refine g_iconst hX dX4_ofTwoParts_89 (rfl : 89 + 1 = 90) ?_
    refine g_iload_n hX dX4_ofTwoParts_90 (rfl : 90 + 1 = 91) rfl ?_
    refine cv_MM hX (kX4_toBook _ _ _ (q) _ _ _ _) mw_X4_138 (by decide) rfl rfl (Nat.le_of_ble_eq_true rfl) dX4_ofTwoParts_91 (rfl : 91 + 3 = 94) (fun Y104 => ?_)
    refine g_goto (pc' := 114) hX dX4_ofTwoParts_94 (by decide) ?_
    refine g_drop (lv' := [some (.ref (q 0)), none, none, none, some (.int (iz v4)), some (.int (iz x101))]) 1 rfl ?_
    refine g_drop (lv' := [some (.ref (q 0)), none, none, none, none, some (.int (iz x101))]) 4 rfl ?_
    exact wX4_ofTwoParts_114 hX x101 Y104
set_option maxRecDepth 100000 in
theorem wX4_ofTwoParts_50 {X : Cx} {D : va_G} {y : ClassId × ClassId × ClassId} {q : Nat → Nat} (hX : OKX X cX4_ofTwoParts RX4 (rmk 2) (some .int) D y) (v1 s0 : Int) (Y : St) : GF X cX4_ofTwoParts D (0, 0) (QI X D y (wM y q)) (fX4_ofTwoParts_j50 v1 s0 Y) 50 [some (.ref (q 0)), some (.int (iz v1)), none, none, none, none] [.int (iz s0)] (wM y q Y) := by
  unfold fX4_ofTwoParts_j50
  refine g_istore (lv' := fun x105 => [some (.ref (q 0)), some (.int (iz v1)), none, none, some (.int (iz x105)), none]) hX dX4_ofTwoParts_50 (rfl : 50 + 2 = 52) rfl (fun _ => rfl) (fun x105 => ?_)
  refine g_iload hX dX4_ofTwoParts_52 (rfl : 52 + 2 = 54) rfl ?_
  refine g_if_eq (tgt := 65) hX dX4_ofTwoParts_54 (by decide) (rfl : 54 + 3 = 57) ?_ ?_
  · refine g_aload_n hX dX4_ofTwoParts_65 (rfl : 65 + 1 = 66) rfl ?_
    refine g_iconst hX dX4_ofTwoParts_66 (rfl : 66 + 1 = 67) ?_
    refine g_iconst hX dX4_ofTwoParts_67 (rfl : 67 + 1 = 68) ?_
    refine ci_MM hX (kX4_resting _ _ _ (q) _ _ _) mw_X4_124 (by decide) rfl rfl (Nat.le_of_ble_eq_true rfl) dX4_ofTwoParts_68 (rfl : 68 + 3 = 71) (fun r107 Y106 => ?_)
    exact wX4_ofTwoParts_71 hX v1 x105 r107 Y106
  · refine g_aload_n hX dX4_ofTwoParts_57 (rfl : 57 + 1 = 58) rfl ?_
    refine g_iconst hX dX4_ofTwoParts_58 (rfl : 58 + 1 = 59) ?_
    refine ci_MM hX (kX4_firstIn _ _ _ (q) _ _) mw_X4_135 (by decide) rfl rfl (Nat.le_of_ble_eq_true rfl) dX4_ofTwoParts_59 (rfl : 59 + 3 = 62) (fun r109 Y108 => ?_)
    refine g_goto (pc' := 71) hX dX4_ofTwoParts_62 (by decide) ?_
    exact wX4_ofTwoParts_71 hX v1 x105 r109 Y108
set_option maxRecDepth 100000 in
theorem wX4_ofTwoParts_49 {X : Cx} {D : va_G} {y : ClassId × ClassId × ClassId} {q : Nat → Nat} (hX : OKX X cX4_ofTwoParts RX4 (rmk 2) (some .int) D y) (v1 : Int) (Y : St) : GF X cX4_ofTwoParts D (0, 0) (QI X D y (wM y q)) (fX4_ofTwoParts_j49 v1 Y) 49 [some (.ref (q 0)), some (.int (iz v1)), none, none, none, none] [] (wM y q Y) := by
  unfold fX4_ofTwoParts_j49
  refine g_iconst hX dX4_ofTwoParts_49 (rfl : 49 + 1 = 50) ?_
  exact wX4_ofTwoParts_50 hX v1 0 Y
set_option maxRecDepth 100000 in
theorem wX4_ofTwoParts_45 {X : Cx} {D : va_G} {y : ClassId × ClassId × ClassId} {q : Nat → Nat} (hX : OKX X cX4_ofTwoParts RX4 (rmk 2) (some .int) D y) (v1 : Int) (Y : St) : GF X cX4_ofTwoParts D (0, 0) (QI X D y (wM y q)) (fX4_ofTwoParts_j45 v1 Y) 45 [some (.ref (q 0)), some (.int (iz v1)), none, none, none, none] [] (wM y q Y) := by
  unfold fX4_ofTwoParts_j45
  refine g_iconst hX dX4_ofTwoParts_45 (rfl : 45 + 1 = 46) ?_
  refine g_goto (pc' := 50) hX dX4_ofTwoParts_46 (by decide) ?_
  exact wX4_ofTwoParts_50 hX v1 1 Y
set_option maxRecDepth 100000 in
theorem wX4_ofTwoParts_21 {X : Cx} {D : va_G} {y : ClassId × ClassId × ClassId} {q : Nat → Nat} (hX : OKX X cX4_ofTwoParts RX4 (rmk 2) (some .int) D y) (v1 s0 : Int) (Y : St) : GF X cX4_ofTwoParts D (0, 0) (QI X D y (wM y q)) (fX4_ofTwoParts_j21 v1 s0 Y) 21 [some (.ref (q 0)), some (.int (iz v1)), none, none, none, none] [.int (iz s0)] (wM y q Y) := by
  unfold fX4_ofTwoParts_j21
  refine g_istore_n (lv' := fun x110 => [some (.ref (q 0)), some (.int (iz v1)), some (.int (iz x110)), none, none, none]) hX dX4_ofTwoParts_21 (rfl : 21 + 1 = 22) rfl (fun _ => rfl) (fun x110 => ?_)
  refine g_aload_n hX dX4_ofTwoParts_22 (rfl : 22 + 1 = 23) rfl ?_
  refine g_iconst hX dX4_ofTwoParts_23 (rfl : 23 + 1 = 24) ?_
  refine ci_MM hX (kX4_partSize _ _ _ (q) _ _) mw_X4_132 (by decide) rfl rfl (Nat.le_of_ble_eq_true rfl) dX4_ofTwoParts_24 (rfl : 24 + 3 = 27) (fun r112 Y111 => ?_)
  refine g_istore_n (lv' := fun x113 => [some (.ref (q 0)), some (.int (iz v1)), some (.int (iz x110)), some (.int (iz x113)), none, none]) hX dX4_ofTwoParts_27 (rfl : 27 + 1 = 28) rfl (fun _ => rfl) (fun x113 => ?_)
  refine g_iload_n hX dX4_ofTwoParts_28 (rfl : 28 + 1 = 29) rfl ?_
  refine g_if_le (tgt := 49) hX dX4_ofTwoParts_29 (by decide) (rfl : 29 + 3 = 32) ?_ ?_
  · refine g_drop (lv' := [some (.ref (q 0)), some (.int (iz v1)), none, some (.int (iz x113)), none, none]) 2 rfl ?_
    refine g_drop (lv' := [some (.ref (q 0)), some (.int (iz v1)), none, none, none, none]) 3 rfl ?_
    exact wX4_ofTwoParts_49 hX v1 Y111
  · refine g_iload_n hX dX4_ofTwoParts_32 (rfl : 32 + 1 = 33) rfl ?_
    refine g_iload_n hX dX4_ofTwoParts_33 (rfl : 33 + 1 = 34) rfl ?_
    refine g_icmp_gt (tgt := 45) hX dX4_ofTwoParts_34 (by decide) (rfl : 34 + 3 = 37) ?_ ?_
    · refine g_drop (lv' := [some (.ref (q 0)), some (.int (iz v1)), none, some (.int (iz x113)), none, none]) 2 rfl ?_
      refine g_drop (lv' := [some (.ref (q 0)), some (.int (iz v1)), none, none, none, none]) 3 rfl ?_
      exact wX4_ofTwoParts_45 hX v1 Y111
    · refine g_aload_n hX dX4_ofTwoParts_37 (rfl : 37 + 1 = 38) rfl ?_
      refine g_iconst hX dX4_ofTwoParts_38 (rfl : 38 + 1 = 39) ?_
      refine ci_MM hX (kX4_partSize _ _ _ (q) _ _) mw_X4_132 (by decide) rfl rfl (Nat.le_of_ble_eq_true rfl) dX4_ofTwoParts_39 (rfl : 39 + 3 = 42) (fun r115 Y114 => ?_)
      refine g_if_ne (tgt := 49) hX dX4_ofTwoParts_42 (by decide) (rfl : 42 + 3 = 45) ?_ ?_
      · refine g_drop (lv' := [some (.ref (q 0)), some (.int (iz v1)), none, some (.int (iz x113)), none, none]) 2 rfl ?_
        refine g_drop (lv' := [some (.ref (q 0)), some (.int (iz v1)), none, none, none, none]) 3 rfl ?_
        exact wX4_ofTwoParts_49 hX v1 Y114
      · refine g_drop (lv' := [some (.ref (q 0)), some (.int (iz v1)), none, some (.int (iz x113)), none, none]) 2 rfl ?_
        refine g_drop (lv' := [some (.ref (q 0)), some (.int (iz v1)), none, none, none, none]) 3 rfl ?_
        exact wX4_ofTwoParts_45 hX v1 Y114
set_option maxRecDepth 100000 in
theorem kX4_ofTwoParts (l : Launch) (D : va_G) (y : ClassId × ClassId × ClassId) (q : Nat → Nat) (Y : St) (a0 : Int) : CtI l D y yX4_ofTwoParts cX4_ofTwoParts 6 (some .int) (rmk 2) [.ref (q 0), .int (iz a0)] (wM y q) Y (fX4_ofTwoParts Y a0) := by
  refine ctI_of (own := RX4) rfl (by decide) (cat1 rfl) rfl (fun X hl hX => ?_)
  subst hl
  show GF X cX4_ofTwoParts D (0, 0) (QI X D y (wM y q)) (fX4_ofTwoParts Y a0) 0 [some (.ref (q 0)), some (.int (iz a0)), none, none, none, none] [] (wM y q Y)
  unfold fX4_ofTwoParts
  refine g_aload_n hX dX4_ofTwoParts_0 (rfl : 0 + 1 = 1) rfl ?_
  refine ge_M_X4_103_M hX dX4_ofTwoParts_1 (rfl : 1 + 3 = 4) ?_
  refine g_iconst hX dX4_ofTwoParts_4 (rfl : 4 + 1 = 5) ?_
  refine g_icmp_ne (tgt := 17) hX dX4_ofTwoParts_5 (by decide) (rfl : 5 + 3 = 8) ?_ ?_
  · refine g_aload_n hX dX4_ofTwoParts_17 (rfl : 17 + 1 = 18) rfl ?_
    refine ge_M_X4_118_M hX dX4_ofTwoParts_18 (rfl : 18 + 3 = 21) ?_
    exact wX4_ofTwoParts_21 hX a0 ((Y.1 25)) Y
  · refine g_aload_n hX dX4_ofTwoParts_8 (rfl : 8 + 1 = 9) rfl ?_
    refine ge_M_X4_106_M hX dX4_ofTwoParts_9 (rfl : 9 + 3 = 12) ?_
    refine g_iconst hX dX4_ofTwoParts_12 (rfl : 12 + 1 = 13) ?_
    refine g_idiv hX dX4_ofTwoParts_13 (rfl : 13 + 1 = 14) ?_
    refine g_goto (pc' := 21) hX dX4_ofTwoParts_14 (by decide) ?_
    exact wX4_ofTwoParts_21 hX a0 ((divI (Y.1 12) 4)) Y
set_option maxRecDepth 100000 in
theorem wX4_askedNext_28 {X : Cx} {D : va_G} {y : ClassId × ClassId × ClassId} {q : Nat → Nat} (hX : OKX X cX4_askedNext RX4 (rmk 0) (some .int) D y) (v3 : Int) (Y : St) : GF X cX4_askedNext D (0, 0) (QI X D y (wM y q)) (fX4_askedNext_j28 v3 Y) 28 [some (.ref (q 0)), none, none, some (.int (iz v3))] [] (wM y q Y) := by
  unfold fX4_askedNext_j28
  refine g_iload_n hX dX4_askedNext_28 (rfl : 28 + 1 = 29) rfl ?_
  exact g_iret hX dX4_askedNext_29
set_option maxRecDepth 100000 in
theorem wX4_askedNext_4 {X : Cx} {D : va_G} {y : ClassId × ClassId × ClassId} {q : Nat → Nat} (hX : OKX X cX4_askedNext RX4 (rmk 0) (some .int) D y) : ∀ (n : Nat) (v1 v3 : Int) (Y : St), GF X cX4_askedNext D (0, 0) (QI X D y (wM y q)) (fX4_askedNext_l4 n v1 v3 Y) 4 [some (.ref (q 0)), some (.int (iz v1)), none, some (.int (iz v3))] [] (wM y q Y) := by
  intro n
  induction n with
  | zero => intro v1 v3 Y; exact g_none
  | succ n hk_4 =>
    intro v1 v3 Y
    unfold fX4_askedNext_l4
    refine g_iload_n hX dX4_askedNext_4 (rfl : 4 + 1 = 5) rfl ?_
    refine g_aload_n hX dX4_askedNext_5 (rfl : 5 + 1 = 6) rfl ?_
    refine ge_M_X4_73_M hX dX4_askedNext_6 (rfl : 6 + 3 = 9) ?_
    refine g_icmp_ge (tgt := 28) hX dX4_askedNext_9 (by decide) (rfl : 9 + 3 = 12) ?_ ?_
    · refine g_drop (lv' := [some (.ref (q 0)), none, none, some (.int (iz v3))]) 1 rfl ?_
      exact wX4_askedNext_28 hX v3 Y
    · refine g_aload_n hX dX4_askedNext_12 (rfl : 12 + 1 = 13) rfl ?_
      refine ge_M_X4_13_M hX dX4_askedNext_13 (rfl : 13 + 3 = 16) ?_
      refine g_iload_n hX dX4_askedNext_16 (rfl : 16 + 1 = 17) rfl ?_
      refine al_M_M_1 hX dX4_askedNext_17 (rfl : 17 + 1 = 18) ?_
      refine g_iload_n hX dX4_askedNext_18 (rfl : 18 + 1 = 19) rfl ?_
      refine g_icmp_eq (tgt := 28) hX dX4_askedNext_19 (by decide) (rfl : 19 + 3 = 22) ?_ ?_
      · refine g_drop (lv' := [some (.ref (q 0)), none, none, some (.int (iz v3))]) 1 rfl ?_
        exact wX4_askedNext_28 hX v3 Y
      · refine g_iinc (lv' := fun x101 => [some (.ref (q 0)), some (.int (iz v1)), none, some (.int (iz x101))]) hX dX4_askedNext_22 (rfl : 22 + 3 = 25) rfl (fun _ => rfl) (fun x101 => ?_)
        refine g_goto (pc' := 4) hX dX4_askedNext_25 (by decide) ?_
        exact hk_4 v1 x101 Y
