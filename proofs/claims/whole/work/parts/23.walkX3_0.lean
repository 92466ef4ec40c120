set_option maxRecDepth 100000 in
theorem wX3_isThing_15 {X : Cx} {D : va_G} {y : ClassId × ClassId × ClassId} (hX : OKX X cX3_isThing RX3 (rmk 0) (some .boolean) D y) (s0 : Int) : GF X cX3_isThing D (0, 0) (QP X) (fX3_isThing_j15 s0) 15 [none] [.int (iz s0)] [] := by
  unfold fX3_isThing_j15
  exact g_zretP hX dX3_isThing_15
set_option maxRecDepth 100000 in
theorem wX3_isThing_14 {X : Cx} {D : va_G} {y : ClassId × ClassId × ClassId} (hX : OKX X cX3_isThing RX3 (rmk 0) (some .boolean) D y) : GF X cX3_isThing D (0, 0) (QP X) (fX3_isThing_j14 ) 14 [none] [] [] := by
  unfold fX3_isThing_j14
  refine g_iconst hX dX3_isThing_14 (rfl : 14 + 1 = 15) ?_
  exact wX3_isThing_15 hX 0
set_option maxRecDepth 100000 in
theorem kX3_isThing (l : Launch) (D : va_G) (y : ClassId × ClassId × ClassId) (a0 : Int) : CtP l D y yX3_isThing cX3_isThing 1 (some .boolean) (rmk 0) [.int (iz a0)] (fX3_isThing a0) := by
  refine ctP_of (own := RX3) rfl (by decide) (cat1 rfl) rfl (fun X hl hX => ?_)
  subst hl
  show GF X cX3_isThing D (0, 0) (QP X) (fX3_isThing a0) 0 [some (.int (iz a0))] [] []
  unfold fX3_isThing
  refine g_iload_n hX dX3_isThing_0 (rfl : 0 + 1 = 1) rfl ?_
  refine g_if_lt (tgt := 14) hX dX3_isThing_1 (by decide) (rfl : 1 + 3 = 4) ?_ ?_
  · refine g_drop (lv' := [none]) 0 rfl ?_
    exact wX3_isThing_14 hX 
  · refine g_iload_n hX dX3_isThing_4 (rfl : 4 + 1 = 5) rfl ?_
    refine g_bipush hX dX3_isThing_5 (by decide) (rfl : 5 + 2 = 7) ?_
    refine g_icmp_ge (tgt := 14) hX dX3_isThing_7 (by decide) (rfl : 7 + 3 = 10) ?_ ?_
    · refine g_drop (lv' := [none]) 0 rfl ?_
      exact wX3_isThing_14 hX 
    · refine g_iconst hX dX3_isThing_10 (rfl : 10 + 1 = 11) ?_
      refine g_goto (pc' := 15) hX dX3_isThing_11 (by decide) ?_
      refine g_drop (lv' := [none]) 0 rfl ?_
      exact wX3_isThing_15 hX 1
set_option maxRecDepth 100000 in
theorem kX3_forget (l : Launch) (D : va_G) (y : ClassId × ClassId × ClassId) (q : Nat → Nat) (Y : St × St × St × St × St) : CtV l D y yX3_forget cX3_forget 1 (rmk 0) [.ref (q 0)] (wJ y q) Y (fX3_forget Y) := by
  refine ctV_of (own := RX3) rfl (by decide) (cat1 rfl) rfl (fun X hl hX => ?_)
  subst hl
  show GF X cX3_forget D (0, 0) (QV X D y (wJ y q)) (fX3_forget Y) 0 [some (.ref (q 0))] [] (wJ y q Y)
  unfold fX3_forget
  refine g_aload_n hX dX3_forget_0 (rfl : 0 + 1 = 1) rfl ?_
  refine g_iconst hX dX3_forget_1 (rfl : 1 + 1 = 2) ?_
  refine pu_J_X3_52_J hX dX3_forget_2 (rfl : 2 + 3 = 5) (fun Y1 => ?_)
  refine g_aload_n hX dX3_forget_5 (rfl : 5 + 1 = 6) rfl ?_
  refine ge_J_X3_31_J hX dX3_forget_6 (rfl : 6 + 3 = 9) ?_
  refine g_iconst hX dX3_forget_9 (rfl : 9 + 1 = 10) ?_
  refine pu_J_X3_163_T hX dX3_forget_10 (rfl : 10 + 3 = 13) (fun Y2 => ?_)
  exact g_vret hX dX3_forget_13
set_option maxRecDepth 100000 in
theorem wX3_price_19 {X : Cx} {D : va_G} {y : ClassId × ClassId × ClassId} {q : Nat → Nat} (hX : OKX X cX3_price RX3 (rmk 1) (some .int) D y) (Y : St × St × St × St × St) : GF X cX3_price D (0, 0) (QI X D y (wJ y q)) (fX3_price_j19  Y) 19 [some (.ref (q 0)), none, none] [] (wJ y q Y) := by
  unfold fX3_price_j19
  refine g_iconst hX dX3_price_19 (rfl : 19 + 1 = 20) ?_
  exact g_iret hX dX3_price_20
set_option maxRecDepth 100000 in
theorem kX3_price (l : Launch) (D : va_G) (y : ClassId × ClassId × ClassId) (q : Nat → Nat) (Y : St × St × St × St × St) (a0 a1 : Int) : CtI l D y yX3_price cX3_price 3 (some .int) (rmk 1) [.ref (q 0), .int (iz a0), .int (iz a1)] (wJ y q) Y (fX3_price Y a0 a1) := by
  refine ctI_of (own := RX3) rfl (by decide) (cat1 rfl) rfl (fun X hl hX => ?_)
  subst hl
  show GF X cX3_price D (0, 0) (QI X D y (wJ y q)) (fX3_price Y a0 a1) 0 [some (.ref (q 0)), some (.int (iz a0)), some (.int (iz a1))] [] (wJ y q Y)
  unfold fX3_price
  refine g_iload_n hX dX3_price_0 (rfl : 0 + 1 = 1) rfl ?_
  refine g_callp hX (kX3_isThing _ _ _ _) mw_X3_56 (by decide) rfl rfl (Nat.le_of_ble_eq_true rfl) dX3_price_1 (rfl : 1 + 3 = 4) (fun r1 => ?_)
  refine g_if_eq (tgt := 19) hX dX3_price_4 (by decide) (rfl : 4 + 3 = 7) ?_ ?_
  · refine g_drop (lv' := [some (.ref (q 0)), none, some (.int (iz a1))]) 1 rfl ?_
    refine g_drop (lv' := [some (.ref (q 0)), none, none]) 2 rfl ?_
    exact wX3_price_19 hX  Y
  · refine g_iload_n hX dX3_price_7 (rfl : 7 + 1 = 8) rfl ?_
    refine g_iconst hX dX3_price_8 (rfl : 8 + 1 = 9) ?_
    refine g_icmp_lt (tgt := 19) hX dX3_price_9 (by decide) (rfl : 9 + 3 = 12) ?_ ?_
    · refine g_drop (lv' := [some (.ref (q 0)), none, some (.int (iz a1))]) 1 rfl ?_
      refine g_drop (lv' := [some (.ref (q 0)), none, none]) 2 rfl ?_
      exact wX3_price_19 hX  Y
    · refine g_iload_n hX dX3_price_12 (rfl : 12 + 1 = 13) rfl ?_
      refine g_sipush hX dX3_price_13 (by decide) (rfl : 13 + 3 = 16) ?_
      refine g_icmp_le (tgt := 21) hX dX3_price_16 (by decide) (rfl : 16 + 3 = 19) ?_ ?_
      · refine g_aload_n hX dX3_price_21 (rfl : 21 + 1 = 22) rfl ?_
        refine ge_J_X3_10_J hX dX3_price_22 (rfl : 22 + 3 = 25) ?_
        refine ge_J_X3_60_R hX dX3_price_25 (rfl : 25 + 3 = 28) ?_
        refine g_iload_n hX dX3_price_28 (rfl : 28 + 1 = 29) rfl ?_
        refine g_iload_n hX dX3_price_29 (rfl : 29 + 1 = 30) rfl ?_
        refine as_J_R_1 hX dX3_price_30 (rfl : 30 + 1 = 31) (fun Y2 => ?_)
        refine g_aload_n hX dX3_price_31 (rfl : 31 + 1 = 32) rfl ?_
        refine cv_JJ hX (kX3_forget _ _ _ (q) _) mw_X3_63 (by decide) rfl rfl (Nat.le_of_ble_eq_true rfl) dX3_price_32 (rfl : 32 + 3 = 35) (fun Y3 => ?_)
        refine g_iconst hX dX3_price_35 (rfl : 35 + 1 = 36) ?_
        exact g_iret hX dX3_price_36
      · refine g_drop (lv' := [some (.ref (q 0)), none, some (.int (iz a1))]) 1 rfl ?_
        refine g_drop (lv' := [some (.ref (q 0)), none, none]) 2 rfl ?_
        exact wX3_price_19 hX  Y
set_option maxRecDepth 100000 in
theorem wX3_ask_131 {X : Cx} {D : va_G} {y : ClassId × ClassId × ClassId} {q : Nat → Nat} (hX : OKX X cX3_ask RX3 (rmk 1) (some .int) D y) (Y : St × St × St × St × St) : GF X cX3_ask D (0, 0) (QI X D y (wJ y q)) (fX3_ask_j131  Y) 131 [some (.ref (q 0)), none, none, none, none, none, none, none] [] (wJ y q Y) := by
  unfold fX3_ask_j131
  refine g_aload_n hX dX3_ask_131 (rfl : 131 + 1 = 132) rfl ?_
  refine cv_JJ hX (kX3_forget _ _ _ (q) _) mw_X3_63 (by decide) rfl rfl (Nat.le_of_ble_eq_true rfl) dX3_ask_132 (rfl : 132 + 3 = 135) (fun Y101 => ?_)
  refine g_aload_n hX dX3_ask_135 (rfl : 135 + 1 = 136) rfl ?_
  refine ge_J_X3_10_J hX dX3_ask_136 (rfl : 136 + 3 = 139) ?_
  refine ge_J_X3_66_R hX dX3_ask_139 (rfl : 139 + 3 = 142) ?_
  exact g_iret hX dX3_ask_142
set_option maxRecDepth 100000 in
theorem wX3_ask_104 {X : Cx} {D : va_G} {y : ClassId × ClassId × ClassId} {q : Nat → Nat} (hX : OKX X cX3_ask RX3 (rmk 1) (some .int) D y) : ∀ (n : Nat) (v6 v7 : Int) (Y : St × St × St × St × St), GF X cX3_ask D (0, 0) (QI X D y (wJ y q)) (fX3_ask_l104 n v6 v7 Y) 104 [some (.ref (q 0)), none, none, none, none, none, some (.int (iz v6)), some (.int (iz v7))] [] (wJ y q Y) := by
  intro n
  induction n with
  | zero => intro v6 v7 Y; exact g_none
  | succ n hk_104 =>
    intro v6 v7 Y
    unfold fX3_ask_l104
    refine g_iload hX dX3_ask_104 (rfl : 104 + 2 = 106) rfl ?_
    refine g_iload hX dX3_ask_106 (rfl : 106 + 2 = 108) rfl ?_
    refine g_icmp_ge (tgt := 131) hX dX3_ask_108 (by decide) (rfl : 108 + 3 = 111) ?_ ?_
    · refine g_drop (lv' := [some (.ref (q 0)), none, none, none, none, none, none, some (.int (iz v7))]) 6 rfl ?_
      refine g_drop (lv' := [some (.ref (q 0)), none, none, none, none, none, none, none]) 7 rfl ?_
      exact wX3_ask_131 hX  Y
    · refine g_aload_n hX dX3_ask_111 (rfl : 111 + 1 = 112) rfl ?_
      refine ge_J_X3_10_J hX dX3_ask_112 (rfl : 112 + 3 = 115) ?_
      refine g_aload_n hX dX3_ask_115 (rfl : 115 + 1 = 116) rfl ?_
      refine ge_J_X3_35_J hX dX3_ask_116 (rfl : 116 + 3 = 119) ?_
      refine g_iload hX dX3_ask_119 (rfl : 119 + 2 = 121) rfl ?_
      refine al_J_J_4 hX dX3_ask_121 (rfl : 121 + 1 = 122) ?_
      refine cv_JR hX (kX1_append _ _ _ (fun k => q (k + 5)) _ _) mw_X3_69 (by decide) rfl rfl (Nat.le_of_ble_eq_true rfl) dX3_ask_122 (rfl : 122 + 3 = 125) (fun Y102 => ?_)
      refine g_iinc (lv' := fun x103 => [some (.ref (q 0)), none, none, none, none, none, some (.int (iz v6)), some (.int (iz x103))]) hX dX3_ask_125 (rfl : 125 + 3 = 128) rfl (fun _ => rfl) (fun x103 => ?_)
      refine g_goto (pc' := 104) hX dX3_ask_128 (by decide) ?_
      exact hk_104 v6 x103 Y102
set_option maxRecDepth 100000 in
theorem wX3_ask_82 {X : Cx} {D : va_G} {y : ClassId × ClassId × ClassId} {q : Nat → Nat} (hX : OKX X cX3_ask RX3 (rmk 1) (some .int) D y) (v6 : Int) (Y : St × St × St × St × St) : GF X cX3_ask D (0, 0) (QI X D y (wJ y q)) (fX3_ask_j82 v6 Y) 82 [some (.ref (q 0)), none, none, none, none, none, some (.int (iz v6)), none] [] (wJ y q Y) := by
  unfold fX3_ask_j82
  refine g_aload_n hX dX3_ask_82 (rfl : 82 + 1 = 83) rfl ?_
  refine ge_J_X3_10_J hX dX3_ask_83 (rfl : 83 + 3 = 86) ?_
  refine ge_J_X3_66_R hX dX3_ask_86 (rfl : 86 + 3 = 89) ?_
  refine g_iload hX dX3_ask_89 (rfl : 89 + 2 = 91) rfl ?_
  refine g_iadd hX dX3_ask_91 (rfl : 91 + 1 = 92) ?_
  refine g_sipush hX dX3_ask_92 (by decide) (rfl : 92 + 3 = 95) ?_
  refine g_icmp_le (tgt := 101) hX dX3_ask_95 (by decide) (rfl : 95 + 3 = 98) ?_ ?_
  · refine g_iconst hX dX3_ask_101 (rfl : 101 + 1 = 102) ?_
    refine g_istore (lv' := fun x104 => [some (.ref (q 0)), none, none, none, none, none, some (.int (iz v6)), some (.int (iz x104))]) hX dX3_ask_102 (rfl : 102 + 2 = 104) rfl (fun _ => rfl) (fun x104 => ?_)
    exact wX3_ask_104 hX FU v6 x104 Y
  · refine g_bipush hX dX3_ask_98 (by decide) (rfl : 98 + 2 = 100) ?_
    exact g_iret hX dX3_ask_100
set_option maxRecDepth 100000 in
theorem wX3_ask_40 {X : Cx} {D : va_G} {y : ClassId × ClassId × ClassId} {q : Nat → Nat} (hX : OKX X cX3_ask RX3 (rmk 1) (some .int) D y) : ∀ (n : Nat) (v6 : Int) (Y : St × St × St × St × St), GF X cX3_ask D (0, 0) (QI X D y (wJ y q)) (fX3_ask_l40 n v6 Y) 40 [some (.ref (q 0)), none, none, none, none, none, some (.int (iz v6)), none] [] (wJ y q Y) := by
  intro n
  induction n with
  | zero => intro v6 Y; exact g_none
  | succ n hk_40 =>
    intro v6 Y
    unfold fX3_ask_l40
    refine g_iload hX dX3_ask_40 (rfl : 40 + 2 = 42) rfl ?_
    refine g_aload_n hX dX3_ask_42 (rfl : 42 + 1 = 43) rfl ?_
    refine ge_J_X3_35_J hX dX3_ask_43 (rfl : 43 + 3 = 46) ?_
    refine g_alen hX 5 1 rfl rfl dX3_ask_46 (rfl : 46 + 1 = 47) ?_
    refine g_icmp_ge (tgt := 82) hX dX3_ask_47 (by decide) (rfl : 47 + 3 = 50) ?_ ?_
    · exact wX3_ask_82 hX v6 Y
    · refine g_aload_n hX dX3_ask_50 (rfl : 50 + 1 = 51) rfl ?_
      refine ge_J_X3_35_J hX dX3_ask_51 (rfl : 51 + 3 = 54) ?_
      refine g_iload hX dX3_ask_54 (rfl : 54 + 2 = 56) rfl ?_
      refine al_J_J_4 hX dX3_ask_56 (rfl : 56 + 1 = 57) ?_
      refine g_iconst hX dX3_ask_57 (rfl : 57 + 1 = 58) ?_
      refine g_icmp_eq (tgt := 82) hX dX3_ask_58 (by decide) (rfl : 58 + 3 = 61) ?_ ?_
      · exact wX3_ask_82 hX v6 Y
      · refine g_aload_n hX dX3_ask_61 (rfl : 61 + 1 = 62) rfl ?_
        refine ge_J_X3_35_J hX dX3_ask_62 (rfl : 62 + 3 = 65) ?_
        refine g_iload hX dX3_ask_65 (rfl : 65 + 2 = 67) rfl ?_
        refine al_J_J_4 hX dX3_ask_67 (rfl : 67 + 1 = 68) ?_
        refine g_callp hX (kX3_isThing _ _ _ _) mw_X3_56 (by decide) rfl rfl (Nat.le_of_ble_eq_true rfl) dX3_ask_68 (rfl : 68 + 3 = 71) (fun r105 => ?_)
        refine g_if_ne (tgt := 76) hX dX3_ask_71 (by decide) (rfl : 71 + 3 = 74) ?_ ?_
        · refine g_iinc (lv' := fun x106 => [some (.ref (q 0)), none, none, none, none, none, some (.int (iz x106)), none]) hX dX3_ask_76 (rfl : 76 + 3 = 79) rfl (fun _ => rfl) (fun x106 => ?_)
          refine g_goto (pc' := 40) hX dX3_ask_79 (by decide) ?_
          exact hk_40 x106 Y
        · refine g_iconst hX dX3_ask_74 (rfl : 74 + 1 = 75) ?_
          exact g_iret hX dX3_ask_75
set_option maxRecDepth 100000 in
theorem kX3_ask (l : Launch) (D : va_G) (y : ClassId × ClassId × ClassId) (q : Nat → Nat) (Y : St × St × St × St × St) (a0 a1 a2 a3 a4 : Int) : CtI l D y yX3_ask cX3_ask 8 (some .int) (rmk 1) [.ref (q 0), .int (iz a0), .int (iz a1), .int (iz a2), .int (iz a3), .int (iz a4)] (wJ y q) Y (fX3_ask Y a0 a1 a2 a3 a4) := by
  refine ctI_of (own := RX3) rfl (by decide) (cat1 rfl) rfl (fun X hl hX => ?_)
  subst hl
  show GF X cX3_ask D (0, 0) (QI X D y (wJ y q)) (fX3_ask Y a0 a1 a2 a3 a4) 0 [some (.ref (q 0)), some (.int (iz a0)), some (.int (iz a1)), some (.int (iz a2)), some (.int (iz a3)), some (.int (iz a4)), none, none] [] (wJ y q Y)
  unfold fX3_ask
  refine g_aload_n hX dX3_ask_0 (rfl : 0 + 1 = 1) rfl ?_
  refine ge_J_X3_35_J hX dX3_ask_1 (rfl : 1 + 3 = 4) ?_
  refine g_iconst hX dX3_ask_4 (rfl : 4 + 1 = 5) ?_
  refine g_iload_n hX dX3_ask_5 (rfl : 5 + 1 = 6) rfl ?_
  refine as_J_J_4 hX dX3_ask_6 (rfl : 6 + 1 = 7) (fun Y1 => ?_)
  refine g_aload_n hX dX3_ask_7 (rfl : 7 + 1 = 8) rfl ?_
  refine ge_J_X3_35_J hX dX3_ask_8 (rfl : 8 + 3 = 11) ?_
  refine g_iconst hX dX3_ask_11 (rfl : 11 + 1 = 12) ?_
  refine g_iload_n hX dX3_ask_12 (rfl : 12 + 1 = 13) rfl ?_
  refine as_J_J_4 hX dX3_ask_13 (rfl : 13 + 1 = 14) (fun Y2 => ?_)
  refine g_aload_n hX dX3_ask_14 (rfl : 14 + 1 = 15) rfl ?_
  refine ge_J_X3_35_J hX dX3_ask_15 (rfl : 15 + 3 = 18) ?_
  refine g_iconst hX dX3_ask_18 (rfl : 18 + 1 = 19) ?_
  refine g_iload_n hX dX3_ask_19 (rfl : 19 + 1 = 20) rfl ?_
  refine as_J_J_4 hX dX3_ask_20 (rfl : 20 + 1 = 21) (fun Y3 => ?_)
  refine g_aload_n hX dX3_ask_21 (rfl : 21 + 1 = 22) rfl ?_
  refine ge_J_X3_35_J hX dX3_ask_22 (rfl : 22 + 3 = 25) ?_
  refine g_iconst hX dX3_ask_25 (rfl : 25 + 1 = 26) ?_
  refine g_iload hX dX3_ask_26 (rfl : 26 + 2 = 28) rfl ?_
  refine as_J_J_4 hX dX3_ask_28 (rfl : 28 + 1 = 29) (fun Y4 => ?_)
  refine g_aload_n hX dX3_ask_29 (rfl : 29 + 1 = 30) rfl ?_
  refine ge_J_X3_35_J hX dX3_ask_30 (rfl : 30 + 3 = 33) ?_
  refine g_iconst hX dX3_ask_33 (rfl : 33 + 1 = 34) ?_
  refine g_iload hX dX3_ask_34 (rfl : 34 + 2 = 36) rfl ?_
  refine as_J_J_4 hX dX3_ask_36 (rfl : 36 + 1 = 37) (fun Y5 => ?_)
  refine g_iconst hX dX3_ask_37 (rfl : 37 + 1 = 38) ?_
  refine g_istore (lv' := fun x6 => [some (.ref (q 0)), some (.int (iz a0)), some (.int (iz a1)), some (.int (iz a2)), some (.int (iz a3)), some (.int (iz a4)), some (.int (iz x6)), none]) hX dX3_ask_38 (rfl : 38 + 2 = 40) rfl (fun _ => rfl) (fun x6 => ?_)
  refine g_drop (lv' := [some (.ref (q 0)), none, some (.int (iz a1)), some (.int (iz a2)), some (.int (iz a3)), some (.int (iz a4)), some (.int (iz x6)), none]) 1 rfl ?_
  refine g_drop (lv' := [some (.ref (q 0)), none, none, some (.int (iz a2)), some (.int (iz a3)), some (.int (iz a4)), some (.int (iz x6)), none]) 2 rfl ?_
  refine g_drop (lv' := [some (.ref (q 0)), none, none, none, some (.int (iz a3)), some (.int (iz a4)), some (.int (iz x6)), none]) 3 rfl ?_
  refine g_drop (lv' := [some (.ref (q 0)), none, none, none, none, some (.int (iz a4)), some (.int (iz x6)), none]) 4 rfl ?_
  refine g_drop (lv' := [some (.ref (q 0)), none, none, none, none, none, some (.int (iz x6)), none]) 5 rfl ?_
  exact wX3_ask_40 hX FU x6 Y5
set_option maxRecDepth 100000 in
theorem wX3_draw_85 {X : Cx} {D : va_G} {y : ClassId × ClassId × ClassId} {q : Nat → Nat} (hX : OKX X cX3_draw RX3 (rmk 1) (some .int) D y) (Y : St × St × St × St × St) : GF X cX3_draw D (0, 0) (QI X D y (wJ y q)) (fX3_draw_j85  Y) 85 [some (.ref (q 0)), none, none, none, none, none] [] (wJ y q Y) := by
  unfold fX3_draw_j85
  refine g_aload_n hX dX3_draw_85 (rfl : 85 + 1 = 86) rfl ?_
  refine cv_JJ hX (kX3_forget _ _ _ (q) _) mw_X3_63 (by decide) rfl rfl (Nat.le_of_ble_eq_true rfl) dX3_draw_86 (rfl : 86 + 3 = 89) (fun Y101 => ?_)
  refine g_aload_n hX dX3_draw_89 (rfl : 89 + 1 = 90) rfl ?_
  refine ge_J_X3_10_J hX dX3_draw_90 (rfl : 90 + 3 = 93) ?_
  refine ge_J_X3_66_R hX dX3_draw_93 (rfl : 93 + 3 = 96) ?_
  exact g_iret hX dX3_draw_96
set_option maxRecDepth 100000 in
theorem wX3_draw_48 {X : Cx} {D : va_G} {y : ClassId × ClassId × ClassId} {q : Nat → Nat} (hX : OKX X cX3_draw RX3 (rmk 1) (some .int) D y) : ∀ (n : Nat) (v1 v2 v4 v5 : Int) (Y : St × St × St × St × St), GF X cX3_draw D (0, 0) (QI X D y (wJ y q)) (fX3_draw_l48 n v1 v2 v4 v5 Y) 48 [some (.ref (q 0)), some (.int (iz v1)), some (.int (iz v2)), none, some (.int (iz v4)), some (.int (iz v5))] [] (wJ y q Y) := by
  intro n
  induction n with
  | zero => intro v1 v2 v4 v5 Y; exact g_none
  | succ n hk_48 =>
    intro v1 v2 v4 v5 Y
    unfold fX3_draw_l48
    refine g_iload hX dX3_draw_48 (rfl : 48 + 2 = 50) rfl ?_
    refine g_iload_n hX dX3_draw_50 (rfl : 50 + 1 = 51) rfl ?_
    refine g_icmp_ge (tgt := 85) hX dX3_draw_51 (by decide) (rfl : 51 + 3 = 54) ?_ ?_
    · refine g_drop (lv' := [some (.ref (q 0)), none, some (.int (iz v2)), none, some (.int (iz v4)), some (.int (iz v5))]) 1 rfl ?_
      refine g_drop (lv' := [some (.ref (q 0)), none, none, none, some (.int (iz v4)), some (.int (iz v5))]) 2 rfl ?_
      refine g_drop (lv' := [some (.ref (q 0)), none, none, none, none, some (.int (iz v5))]) 4 rfl ?_
      refine g_drop (lv' := [some (.ref (q 0)), none, none, none, none, none]) 5 rfl ?_
      exact wX3_draw_85 hX  Y
    · refine g_ldc hX (1103515245) mc_X3_73 (by decide) dX3_draw_54 (rfl : 54 + 2 = 56) ?_
      refine g_iload hX dX3_draw_56 (rfl : 56 + 2 = 58) rfl ?_
      refine g_imul hX dX3_draw_58 (rfl : 58 + 1 = 59) ?_
      refine g_sipush hX dX3_draw_59 (by decide) (rfl : 59 + 3 = 62) ?_
      refine g_iadd hX dX3_draw_62 (rfl : 62 + 1 = 63) ?_
      refine g_istore (lv' := fun x102 => [some (.ref (q 0)), some (.int (iz v1)), some (.int (iz v2)), none, some (.int (iz x102)), some (.int (iz v5))]) hX dX3_draw_63 (rfl : 63 + 2 = 65) rfl (fun _ => rfl) (fun x102 => ?_)
      refine g_aload_n hX dX3_draw_65 (rfl : 65 + 1 = 66) rfl ?_
      refine ge_J_X3_10_J hX dX3_draw_66 (rfl : 66 + 3 = 69) ?_
      refine g_iload hX dX3_draw_69 (rfl : 69 + 2 = 71) rfl ?_
      refine g_bipush hX dX3_draw_71 (by decide) (rfl : 71 + 2 = 73) ?_
      refine g_iushr hX dX3_draw_73 (rfl : 73 + 1 = 74) ?_
      refine g_iload_n hX dX3_draw_74 (rfl : 74 + 1 = 75) rfl ?_
      refine g_irem hX dX3_draw_75 (rfl : 75 + 1 = 76) ?_
      refine cv_JR hX (kX1_append _ _ _ (fun k => q (k + 5)) _ _) mw_X3_69 (by decide) rfl rfl (Nat.le_of_ble_eq_true rfl) dX3_draw_76 (rfl : 76 + 3 = 79) (fun Y103 => ?_)
      refine g_iinc (lv' := fun x104 => [some (.ref (q 0)), some (.int (iz v1)), some (.int (iz v2)), none, some (.int (iz x102)), some (.int (iz x104))]) hX dX3_draw_79 (rfl : 79 + 3 = 82) rfl (fun _ => rfl) (fun x104 => ?_)
      refine g_goto (pc' := 48) hX dX3_draw_82 (by decide) ?_
      exact hk_48 v1 v2 x102 x104 Y103
set_option maxRecDepth 100000 in
theorem wX3_draw_22 {X : Cx} {D : va_G} {y : ClassId × ClassId × ClassId} {q : Nat → Nat} (hX : OKX X cX3_draw RX3 (rmk 1) (some .int) D y) (Y : St × St × St × St × St) : GF X cX3_draw D (0, 0) (QI X D y (wJ y q)) (fX3_draw_j22  Y) 22 [some (.ref (q 0)), none, none, none, none, none] [] (wJ y q Y) := by
  unfold fX3_draw_j22
  refine g_iconst hX dX3_draw_22 (rfl : 22 + 1 = 23) ?_
  exact g_iret hX dX3_draw_23
set_option maxRecDepth 100000 in
theorem kX3_draw (l : Launch) (D : va_G) (y : ClassId × ClassId × ClassId) (q : Nat → Nat) (Y : St × St × St × St × St) (a0 a1 a2 : Int) : CtI l D y yX3_draw cX3_draw 6 (some .int) (rmk 1) [.ref (q 0), .int (iz a0), .int (iz a1), .int (iz a2)] (wJ y q) Y (fX3_draw Y a0 a1 a2) := by
  refine ctI_of (own := RX3) rfl (by decide) (cat1 rfl) rfl (fun X hl hX => ?_)
  subst hl
  show GF X cX3_draw D (0, 0) (QI X D y (wJ y q)) (fX3_draw Y a0 a1 a2) 0 [some (.ref (q 0)), some (.int (iz a0)), some (.int (iz a1)), some (.int (iz a2)), none, none] [] (wJ y q Y)
  unfold fX3_draw
  refine g_iload_n hX dX3_draw_0 (rfl : 0 + 1 = 1) rfl ?_
  refine g_if_lt (tgt := 22) hX dX3_draw_1 (by decide) (rfl : 1 + 3 = 4) ?_ ?_
  · refine g_drop (lv' := [some (.ref (q 0)), none, some (.int (iz a1)), some (.int (iz a2)), none, none]) 1 rfl ?_
    refine g_drop (lv' := [some (.ref (q 0)), none, none, some (.int (iz a2)), none, none]) 2 rfl ?_
    refine g_drop (lv' := [some (.ref (q 0)), none, none, none, none, none]) 3 rfl ?_
    exact wX3_draw_22 hX  Y
  · refine g_iload_n hX dX3_draw_4 (rfl : 4 + 1 = 5) rfl ?_
    refine g_sipush hX dX3_draw_5 (by decide) (rfl : 5 + 3 = 8) ?_
    refine g_icmp_gt (tgt := 22) hX dX3_draw_8 (by decide) (rfl : 8 + 3 = 11) ?_ ?_
    · refine g_drop (lv' := [some (.ref (q 0)), none, some (.int (iz a1)), some (.int (iz a2)), none, none]) 1 rfl ?_
      refine g_drop (lv' := [some (.ref (q 0)), none, none, some (.int (iz a2)), none, none]) 2 rfl ?_
      refine g_drop (lv' := [some (.ref (q 0)), none, none, none, none, none]) 3 rfl ?_
      exact wX3_draw_22 hX  Y
    · refine g_iload_n hX dX3_draw_11 (rfl : 11 + 1 = 12) rfl ?_
      refine g_iconst hX dX3_draw_12 (rfl : 12 + 1 = 13) ?_
      refine g_icmp_lt (tgt := 22) hX dX3_draw_13 (by decide) (rfl : 13 + 3 = 16) ?_ ?_
      · refine g_drop (lv' := [some (.ref (q 0)), none, some (.int (iz a1)), some (.int (iz a2)), none, none]) 1 rfl ?_
        refine g_drop (lv' := [some (.ref (q 0)), none, none, some (.int (iz a2)), none, none]) 2 rfl ?_
        refine g_drop (lv' := [some (.ref (q 0)), none, none, none, none, none]) 3 rfl ?_
        exact wX3_draw_22 hX  Y
      · refine g_iload_n hX dX3_draw_16 (rfl : 16 + 1 = 17) rfl ?_
        refine g_bipush hX dX3_draw_17 (by decide) (rfl : 17 + 2 = 19) ?_
        refine g_icmp_le (tgt := 24) hX dX3_draw_19 (by decide) (rfl : 19 + 3 = 22) ?_ ?_
        · refine g_aload_n hX dX3_draw_24 (rfl : 24 + 1 = 25) rfl ?_
          refine ge_J_X3_10_J hX dX3_draw_25 (rfl : 25 + 3 = 28) ?_
          refine ge_J_X3_66_R hX dX3_draw_28 (rfl : 28 + 3 = 31) ?_
          refine g_iload_n hX dX3_draw_31 (rfl : 31 + 1 = 32) rfl ?_
          refine g_iadd hX dX3_draw_32 (rfl : 32 + 1 = 33) ?_
          refine g_sipush hX dX3_draw_33 (by decide) (rfl : 33 + 3 = 36) ?_
          refine g_icmp_le (tgt := 42) hX dX3_draw_36 (by decide) (rfl : 36 + 3 = 39) ?_ ?_
          · refine g_iload_n hX dX3_draw_42 (rfl : 42 + 1 = 43) rfl ?_
            refine g_istore (lv' := fun x1 => [some (.ref (q 0)), some (.int (iz a0)), some (.int (iz a1)), some (.int (iz a2)), some (.int (iz x1)), none]) hX dX3_draw_43 (rfl : 43 + 2 = 45) rfl (fun _ => rfl) (fun x1 => ?_)
            refine g_iconst hX dX3_draw_45 (rfl : 45 + 1 = 46) ?_
            refine g_istore (lv' := fun x2 => [some (.ref (q 0)), some (.int (iz a0)), some (.int (iz a1)), some (.int (iz a2)), some (.int (iz x1)), some (.int (iz x2))]) hX dX3_draw_46 (rfl : 46 + 2 = 48) rfl (fun _ => rfl) (fun x2 => ?_)
            refine g_drop (lv' := [some (.ref (q 0)), some (.int (iz a0)), some (.int (iz a1)), none, some (.int (iz x1)), some (.int (iz x2))]) 3 rfl ?_
            exact wX3_draw_48 hX FU a0 a1 x1 x2 Y
          · refine g_bipush hX dX3_draw_39 (by decide) (rfl : 39 + 2 = 41) ?_
            exact g_iret hX dX3_draw_41
        · refine g_drop (lv' := [some (.ref (q 0)), none, some (.int (iz a1)), some (.int (iz a2)), none, none]) 1 rfl ?_
          refine g_drop (lv' := [some (.ref (q 0)), none, none, some (.int (iz a2)), none, none]) 2 rfl ?_
          refine g_drop (lv' := [some (.ref (q 0)), none, none, none, none, none]) 3 rfl ?_
          exact wX3_draw_22 hX  Y
set_option maxRecDepth 100000 in
theorem wX3_change_18 {X : Cx} {D : va_G} {y : ClassId × ClassId × ClassId} {q : Nat → Nat} (hX : OKX X cX3_change RX3 (rmk 1) (some .int) D y) (Y : St × St × St × St × St) : GF X cX3_change D (0, 0) (QI X D y (wJ y q)) (fX3_change_j18  Y) 18 [some (.ref (q 0)), none, none] [] (wJ y q Y) := by
  unfold fX3_change_j18
  refine g_iconst hX dX3_change_18 (rfl : 18 + 1 = 19) ?_
  exact g_iret hX dX3_change_19
set_option maxRecDepth 100000 in
theorem kX3_change (l : Launch) (D : va_G) (y : ClassId × ClassId × ClassId) (q : Nat → Nat) (Y : St × St × St × St × St) (a0 a1 : Int) : CtI l D y yX3_change cX3_change 3 (some .int) (rmk 1) [.ref (q 0), .int (iz a0), .int (iz a1)] (wJ y q) Y (fX3_change Y a0 a1) := by
  refine ctI_of (own := RX3) rfl (by decide) (cat1 rfl) rfl (fun X hl hX => ?_)
  subst hl
  show GF X cX3_change D (0, 0) (QI X D y (wJ y q)) (fX3_change Y a0 a1) 0 [some (.ref (q 0)), some (.int (iz a0)), some (.int (iz a1))] [] (wJ y q Y)
  unfold fX3_change
  refine g_aload_n hX dX3_change_0 (rfl : 0 + 1 = 1) rfl ?_
  refine ge_J_X3_10_J hX dX3_change_1 (rfl : 1 + 3 = 4) ?_
  refine g_iload_n hX dX3_change_4 (rfl : 4 + 1 = 5) rfl ?_
  refine ci_JR hX (kX1_has _ _ _ (fun k => q (k + 5)) _ _) mw_X3_74 (by decide) rfl rfl (Nat.le_of_ble_eq_true rfl) dX3_change_5 (rfl : 5 + 3 = 8) (fun r2 Y1 => ?_)
  refine g_if_eq (tgt := 18) hX dX3_change_8 (by decide) (rfl : 8 + 3 = 11) ?_ ?_
  · refine g_drop (lv' := [some (.ref (q 0)), none, some (.int (iz a1))]) 1 rfl ?_
    refine g_drop (lv' := [some (.ref (q 0)), none, none]) 2 rfl ?_
    exact wX3_change_18 hX  Y1
  · refine g_iload_n hX dX3_change_11 (rfl : 11 + 1 = 12) rfl ?_
    refine g_callp hX (kX3_isThing _ _ _ _) mw_X3_56 (by decide) rfl rfl (Nat.le_of_ble_eq_true rfl) dX3_change_12 (rfl : 12 + 3 = 15) (fun r3 => ?_)
    refine g_if_ne (tgt := 20) hX dX3_change_15 (by decide) (rfl : 15 + 3 = 18) ?_ ?_
    · refine g_aload_n hX dX3_change_20 (rfl : 20 + 1 = 21) rfl ?_
      refine ge_J_X3_10_J hX dX3_change_21 (rfl : 21 + 3 = 24) ?_
      refine ge_J_X3_77_R hX dX3_change_24 (rfl : 24 + 3 = 27) ?_
      refine g_iload_n hX dX3_change_27 (rfl : 27 + 1 = 28) rfl ?_
      refine g_iload_n hX dX3_change_28 (rfl : 28 + 1 = 29) rfl ?_
      refine as_J_R_0 hX dX3_change_29 (rfl : 29 + 1 = 30) (fun Y4 => ?_)
      refine g_aload_n hX dX3_change_30 (rfl : 30 + 1 = 31) rfl ?_
      refine cv_JJ hX (kX3_forget _ _ _ (q) _) mw_X3_63 (by decide) rfl rfl (Nat.le_of_ble_eq_true rfl) dX3_change_31 (rfl : 31 + 3 = 34) (fun Y5 => ?_)
      refine g_iconst hX dX3_change_34 (rfl : 34 + 1 = 35) ?_
      exact g_iret hX dX3_change_35
    · refine g_drop (lv' := [some (.ref (q 0)), none, some (.int (iz a1))]) 1 rfl ?_
      refine g_drop (lv' := [some (.ref (q 0)), none, none]) 2 rfl ?_
      exact wX3_change_18 hX  Y1
set_option maxRecDepth 100000 in
theorem wX3_cut_15 {X : Cx} {D : va_G} {y : ClassId × ClassId × ClassId} {q : Nat → Nat} (hX : OKX X cX3_cut RX3 (rmk 1) (some .int) D y) (Y : St × St × St × St × St) : GF X cX3_cut D (0, 0) (QI X D y (wJ y q)) (fX3_cut_j15  Y) 15 [some (.ref (q 0)), none] [] (wJ y q Y) := by
  unfold fX3_cut_j15
  refine g_iconst hX dX3_cut_15 (rfl : 15 + 1 = 16) ?_
  exact g_iret hX dX3_cut_16
set_option maxRecDepth 100000 in
theorem kX3_cut (l : Launch) (D : va_G) (y : ClassId × ClassId × ClassId) (q : Nat → Nat) (Y : St × St × St × St × St) (a0 : Int) : CtI l D y yX3_cut cX3_cut 2 (some .int) (rmk 1) [.ref (q 0), .int (iz a0)] (wJ y q) Y (fX3_cut Y a0) := by
  refine ctI_of (own := RX3) rfl (by decide) (cat1 rfl) rfl (fun X hl hX => ?_)
  subst hl
  show GF X cX3_cut D (0, 0) (QI X D y (wJ y q)) (fX3_cut Y a0) 0 [some (.ref (q 0)), some (.int (iz a0))] [] (wJ y q Y)
  unfold fX3_cut
  refine g_iload_n hX dX3_cut_0 (rfl : 0 + 1 = 1) rfl ?_
  refine g_if_lt (tgt := 15) hX dX3_cut_1 (by decide) (rfl : 1 + 3 = 4) ?_ ?_
  · refine g_drop (lv' := [some (.ref (q 0)), none]) 1 rfl ?_
    exact wX3_cut_15 hX  Y
  · refine g_iload_n hX dX3_cut_4 (rfl : 4 + 1 = 5) rfl ?_
    refine g_aload_n hX dX3_cut_5 (rfl : 5 + 1 = 6) rfl ?_
    refine ge_J_X3_10_J hX dX3_cut_6 (rfl : 6 + 3 = 9) ?_
    refine ge_J_X3_66_R hX dX3_cut_9 (rfl : 9 + 3 = 12) ?_
    refine g_icmp_le (tgt := 17) hX dX3_cut_12 (by decide) (rfl : 12 + 3 = 15) ?_ ?_
    · refine g_aload_n hX dX3_cut_17 (rfl : 17 + 1 = 18) rfl ?_
      refine ge_J_X3_10_J hX dX3_cut_18 (rfl : 18 + 3 = 21) ?_
      refine g_iload_n hX dX3_cut_21 (rfl : 21 + 1 = 22) rfl ?_
      refine pu_J_X3_66_R hX dX3_cut_22 (rfl : 22 + 3 = 25) (fun Y1 => ?_)
      refine g_aload_n hX dX3_cut_25 (rfl : 25 + 1 = 26) rfl ?_
      refine cv_JJ hX (kX3_forget _ _ _ (q) _) mw_X3_63 (by decide) rfl rfl (Nat.le_of_ble_eq_true rfl) dX3_cut_26 (rfl : 26 + 3 = 29) (fun Y2 => ?_)
      refine g_iload_n hX dX3_cut_29 (rfl : 29 + 1 = 30) rfl ?_
      exact g_iret hX dX3_cut_30
    · refine g_drop (lv' := [some (.ref (q 0)), none]) 1 rfl ?_
      exact wX3_cut_15 hX  Y
set_option maxRecDepth 100000 in
theorem wX3_asked_24 {X : Cx} {D : va_G} {y : ClassId × ClassId × ClassId} {q : Nat → Nat} (hX : OKX X cX3_asked RX3 (rmk 1) (some .int) D y) (s0 : Int) (Y : St × St × St × St × St) : GF X cX3_asked D (0, 0) (QI X D y (wJ y q)) (fX3_asked_j24 s0 Y) 24 [some (.ref (q 0)), none] [.int (iz s0)] (wJ y q Y) := by
  unfold fX3_asked_j24
  exact g_iret hX dX3_asked_24
set_option maxRecDepth 100000 in
theorem kX3_asked (l : Launch) (D : va_G) (y : ClassId × ClassId × ClassId) (q : Nat → Nat) (Y : St × St × St × St × St) (a0 : Int) : CtI l D y yX3_asked cX3_asked 2 (some .int) (rmk 1) [.ref (q 0), .int (iz a0)] (wJ y q) Y (fX3_asked Y a0) := by
  refine ctI_of (own := RX3) rfl (by decide) (cat1 rfl) rfl (fun X hl hX => ?_)
  subst hl
  show GF X cX3_asked D (0, 0) (QI X D y (wJ y q)) (fX3_asked Y a0) 0 [some (.ref (q 0)), some (.int (iz a0))] [] (wJ y q Y)
  unfold fX3_asked
  refine g_aload_n hX dX3_asked_0 (rfl : 0 + 1 = 1) rfl ?_
  refine ge_J_X3_10_J hX dX3_asked_1 (rfl : 1 + 3 = 4) ?_
  refine g_iload_n hX dX3_asked_4 (rfl : 4 + 1 = 5) rfl ?_
  refine ci_JR hX (kX1_has _ _ _ (fun k => q (k + 5)) _ _) mw_X3_74 (by decide) rfl rfl (Nat.le_of_ble_eq_true rfl) dX3_asked_5 (rfl : 5 + 3 = 8) (fun r2 Y1 => ?_)
  refine g_if_eq (tgt := 23) hX dX3_asked_8 (by decide) (rfl : 8 + 3 = 11) ?_ ?_
  · refine g_iconst hX dX3_asked_23 (rfl : 23 + 1 = 24) ?_
    refine g_drop (lv' := [some (.ref (q 0)), none]) 1 rfl ?_
    exact wX3_asked_24 hX ((-1)) Y1
  · refine g_aload_n hX dX3_asked_11 (rfl : 11 + 1 = 12) rfl ?_
    refine ge_J_X3_10_J hX dX3_asked_12 (rfl : 12 + 3 = 15) ?_
    refine ge_J_X3_77_R hX dX3_asked_15 (rfl : 15 + 3 = 18) ?_
    refine g_iload_n hX dX3_asked_18 (rfl : 18 + 1 = 19) rfl ?_
    refine al_J_R_0 hX dX3_asked_19 (rfl : 19 + 1 = 20) ?_
    refine g_goto (pc' := 24) hX dX3_asked_20 (by decide) ?_
    refine g_drop (lv' := [some (.ref (q 0)), none]) 1 rfl ?_
    exact wX3_asked_24 hX ((Y1.2.1.2 0 (Int.toNat a0))) Y1
set_option maxRecDepth 100000 in
theorem kX3_many (l : Launch) (D : va_G) (y : ClassId × ClassId × ClassId) (q : Nat → Nat) (Y : St × St × St × St × St) (a0 : Int) : CtI l D y yX3_many cX3_many 2 (some .int) (rmk 2) [.ref (q 0), .int (iz a0)] (wJ y q) Y (fX3_many Y a0) := by
  refine ctI_of (own := RX3) rfl (by decide) (cat1 rfl) rfl (fun X hl hX => ?_)
  subst hl
  show GF X cX3_many D (0, 0) (QI X D y (wJ y q)) (fX3_many Y a0) 0 [some (.ref (q 0)), some (.int (iz a0))] [] (wJ y q Y)
  unfold fX3_many
  refine g_iload_n hX dX3_many_0 (rfl : 0 + 1 = 1) rfl ?_
  refine g_ite (fun c1 => ?_) (fun c1 => ?_)
  · refine g_tab (tgt := 32) hX c1 dX3_many_1 (by decide) (by decide) rfl (by decide) ?_
    refine g_aload_n hX dX3_many_32 (rfl : 32 + 1 = 33) rfl ?_
    refine ge_J_X3_10_J hX dX3_many_33 (rfl : 33 + 3 = 36) ?_
    refine ge_J_X3_66_R hX dX3_many_36 (rfl : 36 + 3 = 39) ?_
    exact g_iret hX dX3_many_39
  refine g_ite (fun c2 => ?_) (fun c2 => ?_)
  · refine g_tab (tgt := 40) hX c2 dX3_many_1 (by decide) (by decide) rfl (by decide) ?_
    refine g_aload_n hX dX3_many_40 (rfl : 40 + 1 = 41) rfl ?_
    refine ge_J_X3_10_J hX dX3_many_41 (rfl : 41 + 3 = 44) ?_
    refine ci_JR hX (kX1_unlike _ _ _ (fun k => q (k + 5)) _) mw_X3_80 (by decide) rfl rfl (Nat.le_of_ble_eq_true rfl) dX3_many_44 (rfl : 44 + 3 = 47) (fun r4 Y3 => ?_)
    exact g_iret hX dX3_many_47
  refine g_ite (fun c5 => ?_) (fun c5 => ?_)
  · refine g_tab (tgt := 48) hX c5 dX3_many_1 (by decide) (by decide) rfl (by decide) ?_
    refine g_aload_n hX dX3_many_48 (rfl : 48 + 1 = 49) rfl ?_
    refine ge_J_X3_48_J hX dX3_many_49 (rfl : 49 + 3 = 52) ?_
    exact g_iret hX dX3_many_52
  refine g_ite (fun c6 => ?_) (fun c6 => ?_)
  · refine g_tab (tgt := 53) hX c6 dX3_many_1 (by decide) (by decide) rfl (by decide) ?_
    refine g_aload_n hX dX3_many_53 (rfl : 53 + 1 = 54) rfl ?_
    refine ge_J_X3_10_J hX dX3_many_54 (rfl : 54 + 3 = 57) ?_
    refine ci_JR hX (kX1_priceOfAll _ _ _ (fun k => q (k + 5)) _) mw_X3_84 (by decide) rfl rfl (Nat.le_of_ble_eq_true rfl) dX3_many_57 (rfl : 57 + 3 = 60) (fun r8 Y7 => ?_)
    exact g_iret hX dX3_many_60
  refine g_tabD (tgt := 61) hX dX3_many_1 (by omega) (by decide) ?_
  refine g_iconst hX dX3_many_61 (rfl : 61 + 1 = 62) ?_
  exact g_iret hX dX3_many_62
set_option maxRecDepth 100000 in
theorem wX3_isWay_15 {X : Cx} {D : va_G} {y : ClassId × ClassId × ClassId} (hX : OKX X cX3_isWay RX3 (rmk 0) (some .boolean) D y) (s0 : Int) : GF X cX3_isWay D (0, 0) (QP X) (fX3_isWay_j15 s0) 15 [none] [.int (iz s0)] [] := by
  unfold fX3_isWay_j15
  exact g_zretP hX dX3_isWay_15
set_option maxRecDepth 100000 in
theorem wX3_isWay_14 {X : Cx} {D : va_G} {y : ClassId × ClassId × ClassId} (hX : OKX X cX3_isWay RX3 (rmk 0) (some .boolean) D y) : GF X cX3_isWay D (0, 0) (QP X) (fX3_isWay_j14 ) 14 [none] [] [] := by
  unfold fX3_isWay_j14
  refine g_iconst hX dX3_isWay_14 (rfl : 14 + 1 = 15) ?_
  exact wX3_isWay_15 hX 0
set_option maxRecDepth 100000 in
theorem kX3_isWay (l : Launch) (D : va_G) (y : ClassId × ClassId × ClassId) (a0 : Int) : CtP l D y yX3_isWay cX3_isWay 1 (some .boolean) (rmk 0) [.int (iz a0)] (fX3_isWay a0) := by
  refine ctP_of (own := RX3) rfl (by decide) (cat1 rfl) rfl (fun X hl hX => ?_)
  subst hl
  show GF X cX3_isWay D (0, 0) (QP X) (fX3_isWay a0) 0 [some (.int (iz a0))] [] []
  unfold fX3_isWay
  refine g_iload_n hX dX3_isWay_0 (rfl : 0 + 1 = 1) rfl ?_
  refine g_if_lt (tgt := 14) hX dX3_isWay_1 (by decide) (rfl : 1 + 3 = 4) ?_ ?_
  · refine g_drop (lv' := [none]) 0 rfl ?_
    exact wX3_isWay_14 hX 
  · refine g_iload_n hX dX3_isWay_4 (rfl : 4 + 1 = 5) rfl ?_
    refine g_bipush hX dX3_isWay_5 (by decide) (rfl : 5 + 2 = 7) ?_
    refine g_icmp_gt (tgt := 14) hX dX3_isWay_7 (by decide) (rfl : 7 + 3 = 10) ?_ ?_
    · refine g_drop (lv' := [none]) 0 rfl ?_
      exact wX3_isWay_14 hX 
    · refine g_iconst hX dX3_isWay_10 (rfl : 10 + 1 = 11) ?_
      refine g_goto (pc' := 15) hX dX3_isWay_11 (by decide) ?_
      refine g_drop (lv' := [none]) 0 rfl ?_
      exact wX3_isWay_15 hX 1
set_option maxRecDepth 100000 in
theorem wX3_isPlaces_16 {X : Cx} {D : va_G} {y : ClassId × ClassId × ClassId} (hX : OKX X cX3_isPlaces RX3 (rmk 0) (some .boolean) D y) (s0 : Int) : GF X cX3_isPlaces D (0, 0) (QP X) (fX3_isPlaces_j16 s0) 16 [none] [.int (iz s0)] [] := by
  unfold fX3_isPlaces_j16
  exact g_zretP hX dX3_isPlaces_16
set_option maxRecDepth 100000 in
theorem wX3_isPlaces_15 {X : Cx} {D : va_G} {y : ClassId × ClassId × ClassId} (hX : OKX X cX3_isPlaces RX3 (rmk 0) (some .boolean) D y) : GF X cX3_isPlaces D (0, 0) (QP X) (fX3_isPlaces_j15 ) 15 [none] [] [] := by
  unfold fX3_isPlaces_j15
  refine g_iconst hX dX3_isPlaces_15 (rfl : 15 + 1 = 16) ?_
  exact wX3_isPlaces_16 hX 0
set_option maxRecDepth 100000 in
theorem kX3_isPlaces (l : Launch) (D : va_G) (y : ClassId × ClassId × ClassId) (a0 : Int) : CtP l D y yX3_isPlaces cX3_isPlaces 1 (some .boolean) (rmk 0) [.int (iz a0)] (fX3_isPlaces a0) := by
  refine ctP_of (own := RX3) rfl (by decide) (cat1 rfl) rfl (fun X hl hX => ?_)
  subst hl
  show GF X cX3_isPlaces D (0, 0) (QP X) (fX3_isPlaces a0) 0 [some (.int (iz a0))] [] []
  unfold fX3_isPlaces
  refine g_iload_n hX dX3_isPlaces_0 (rfl : 0 + 1 = 1) rfl ?_
  refine g_iconst hX dX3_isPlaces_1 (rfl : 1 + 1 = 2) ?_
  refine g_icmp_lt (tgt := 15) hX dX3_isPlaces_2 (by decide) (rfl : 2 + 3 = 5) ?_ ?_
  · refine g_drop (lv' := [none]) 0 rfl ?_
    exact wX3_isPlaces_15 hX 
  · refine g_iload_n hX dX3_isPlaces_5 (rfl : 5 + 1 = 6) rfl ?_
    refine g_bipush hX dX3_isPlaces_6 (by decide) (rfl : 6 + 2 = 8) ?_
    refine g_icmp_gt (tgt := 15) hX dX3_isPlaces_8 (by decide) (rfl : 8 + 3 = 11) ?_ ?_
    · refine g_drop (lv' := [none]) 0 rfl ?_
      exact wX3_isPlaces_15 hX 
    · refine g_iconst hX dX3_isPlaces_11 (rfl : 11 + 1 = 12) ?_
      refine g_goto (pc' := 16) hX dX3_isPlaces_12 (by decide) ?_
      refine g_drop (lv' := [none]) 0 rfl ?_
      exact wX3_isPlaces_16 hX 1
set_option maxRecDepth 100000 in
theorem wX3_serve_125 {X : Cx} {D : va_G} {y : ClassId × ClassId × ClassId} {q : Nat → Nat} (hX : OKX X cX3_serve RX3 (rmk 5) (some .int) D y) (Y : St × St × St × St × St) : GF X cX3_serve D (0, 0) (QI X D y (wJ y q)) (fX3_serve_j125  Y) 125 [some (.ref (q 0)), none, none, none] [] (wJ y q Y) := by
  unfold fX3_serve_j125
  refine g_aload_n hX dX3_serve_125 (rfl : 125 + 1 = 126) rfl ?_
  refine g_iconst hX dX3_serve_126 (rfl : 126 + 1 = 127) ?_
  refine pu_J_X3_52_J hX dX3_serve_127 (rfl : 127 + 3 = 130) (fun Y101 => ?_)
  refine g_aload_n hX dX3_serve_130 (rfl : 130 + 1 = 131) rfl ?_
  refine ge_J_X3_97_J hX dX3_serve_131 (rfl : 131 + 3 = 134) ?_
  exact g_iret hX dX3_serve_134
set_option maxRecDepth 100000 in
theorem wX3_serve_119 {X : Cx} {D : va_G} {y : ClassId × ClassId × ClassId} {q : Nat → Nat} (hX : OKX X cX3_serve RX3 (rmk 5) (some .int) D y) {k_37 : Int → (St × St × St × St × St) → Option (Int × (St × St × St × St × St))} (hk_37 : ∀ (v3 : Int) (Y : St × St × St × St × St), GF X cX3_serve D (0, 0) (QI X D y (wJ y q)) (k_37 v3 Y) 37 [some (.ref (q 0)), none, none, some (.int (iz v3))] [] (wJ y q Y)) (v3 : Int) (Y : St × St × St × St × St) : GF X cX3_serve D (0, 0) (QI X D y (wJ y q)) (fX3_serve_j119 k_37 v3 Y) 119 [some (.ref (q 0)), none, none, some (.int (iz v3))] [] (wJ y q Y) := by
  unfold fX3_serve_j119
  refine g_iinc (lv' := fun x102 => [some (.ref (q 0)), none, none, some (.int (iz x102))]) hX dX3_serve_119 (rfl : 119 + 3 = 122) rfl (fun _ => rfl) (fun x102 => ?_)
  refine g_goto (pc' := 37) hX dX3_serve_122 (by decide) ?_
  exact hk_37 x102 Y
set_option maxRecDepth 100000 in
theorem wX3_serve_81 {X : Cx} {D : va_G} {y : ClassId × ClassId × ClassId} {q : Nat → Nat} (hX : OKX X cX3_serve RX3 (rmk 5) (some .int) D y) {k_37 : Int → (St × St × St × St × St) → Option (Int × (St × St × St × St × St))} (hk_37 : ∀ (v3 : Int) (Y : St × St × St × St × St), GF X cX3_serve D (0, 0) (QI X D y (wJ y q)) (k_37 v3 Y) 37 [some (.ref (q 0)), none, none, some (.int (iz v3))] [] (wJ y q Y)) (v3 s0 s1 : Int) (Y : St × St × St × St × St) : GF X cX3_serve D (0, 0) (QI X D y (wJ y q)) (fX3_serve_j81 k_37 v3 s0 s1 Y) 81 [some (.ref (q 0)), none, none, some (.int (iz v3))] [.int (iz s0), .int (iz s1), .ref (q 3)] (wJ y q Y) := by
  unfold fX3_serve_j81
  refine as_J_J_6 hX dX3_serve_81 (rfl : 81 + 1 = 82) (fun Y103 => ?_)
  refine g_aload_n hX dX3_serve_82 (rfl : 82 + 1 = 83) rfl ?_
  refine ge_J_X3_21_J hX dX3_serve_83 (rfl : 83 + 3 = 86) ?_
  refine ge_J_X3_106_U hX dX3_serve_86 (rfl : 86 + 3 = 89) ?_
  refine g_if_ne (tgt := 119) hX dX3_serve_89 (by decide) (rfl : 89 + 3 = 92) ?_ ?_
  · exact wX3_serve_119 hX hk_37 v3 Y103
  · refine g_aload_n hX dX3_serve_92 (rfl : 92 + 1 = 93) rfl ?_
    refine g_dup hX dX3_serve_93 rfl (rfl : 93 + 1 = 94) ?_
    refine ge_J_X3_97_J hX dX3_serve_94 (rfl : 94 + 3 = 97) ?_
    refine g_iconst hX dX3_serve_97 (rfl : 97 + 1 = 98) ?_
    refine g_iadd hX dX3_serve_98 (rfl : 98 + 1 = 99) ?_
    refine pu_J_X3_97_J hX dX3_serve_99 (rfl : 99 + 3 = 102) (fun Y104 => ?_)
    refine g_aload_n hX dX3_serve_102 (rfl : 102 + 1 = 103) rfl ?_
    refine g_dup hX dX3_serve_103 rfl (rfl : 103 + 1 = 104) ?_
    refine ge_J_X3_100_J hX dX3_serve_104 (rfl : 104 + 3 = 107) ?_
    refine g_aload_n hX dX3_serve_107 (rfl : 107 + 1 = 108) rfl ?_
    refine ge_J_X3_10_J hX dX3_serve_108 (rfl : 108 + 3 = 111) ?_
    refine g_iload_n hX dX3_serve_111 (rfl : 111 + 1 = 112) rfl ?_
    refine ci_JR hX (kX1_priceAt _ _ _ (fun k => q (k + 5)) _ _) mw_X3_109 (by decide) rfl rfl (Nat.le_of_ble_eq_true rfl) dX3_serve_112 (rfl : 112 + 3 = 115) (fun r106 Y105 => ?_)
    refine g_iadd hX dX3_serve_115 (rfl : 115 + 1 = 116) ?_
    refine pu_J_X3_100_J hX dX3_serve_116 (rfl : 116 + 3 = 119) (fun Y107 => ?_)
    exact wX3_serve_119 hX hk_37 v3 Y107
set_option maxRecDepth 100000 in
theorem wX3_serve_37 {X : Cx} {D : va_G} {y : ClassId × ClassId × ClassId} {q : Nat → Nat} (hX : OKX X cX3_serve RX3 (rmk 5) (some .int) D y) : ∀ (n : Nat) (v3 : Int) (Y : St × St × St × St × St), GF X cX3_serve D (0, 0) (QI X D y (wJ y q)) (fX3_serve_l37 n v3 Y) 37 [some (.ref (q 0)), none, none, some (.int (iz v3))] [] (wJ y q Y) := by
  intro n
  induction n with
  | zero => intro v3 Y; exact g_none
  | succ n hk_37 =>
    intro v3 Y
    unfold fX3_serve_l37
    refine g_iload_n hX dX3_serve_37 (rfl : 37 + 1 = 38) rfl ?_
    refine g_aload_n hX dX3_serve_38 (rfl : 38 + 1 = 39) rfl ?_
    refine ge_J_X3_10_J hX dX3_serve_39 (rfl : 39 + 3 = 42) ?_
    refine ge_J_X3_66_R hX dX3_serve_42 (rfl : 42 + 3 = 45) ?_
    refine g_icmp_ge (tgt := 125) hX dX3_serve_45 (by decide) (rfl : 45 + 3 = 48) ?_ ?_
    · refine g_drop (lv' := [some (.ref (q 0)), none, none, none]) 3 rfl ?_
      exact wX3_serve_125 hX  Y
    · refine g_aload_n hX dX3_serve_48 (rfl : 48 + 1 = 49) rfl ?_
      refine ge_J_X3_45_J hX dX3_serve_49 (rfl : 49 + 3 = 52) ?_
      refine g_iload_n hX dX3_serve_52 (rfl : 52 + 1 = 53) rfl ?_
      refine g_aload_n hX dX3_serve_53 (rfl : 53 + 1 = 54) rfl ?_
      refine ge_J_X3_21_J hX dX3_serve_54 (rfl : 54 + 3 = 57) ?_
      refine ci_JU hX (kX2_step _ _ _ (fun k => q (k + 10)) (fun k => q (k + 5)) _) mw_X3_103 (by decide) rfl rfl (Nat.le_of_ble_eq_true rfl) dX3_serve_57 (rfl : 57 + 3 = 60) (fun r109 Y108 => ?_)
      refine as_J_J_7 hX dX3_serve_60 (rfl : 60 + 1 = 61) (fun Y110 => ?_)
      refine g_aload_n hX dX3_serve_61 (rfl : 61 + 1 = 62) rfl ?_
      refine ge_J_X3_42_J hX dX3_serve_62 (rfl : 62 + 3 = 65) ?_
      refine g_iload_n hX dX3_serve_65 (rfl : 65 + 1 = 66) rfl ?_
      refine g_aload_n hX dX3_serve_66 (rfl : 66 + 1 = 67) rfl ?_
      refine ge_J_X3_21_J hX dX3_serve_67 (rfl : 67 + 3 = 70) ?_
      refine ge_J_X3_106_U hX dX3_serve_70 (rfl : 70 + 3 = 73) ?_
      refine g_if_eq (tgt := 80) hX dX3_serve_73 (by decide) (rfl : 73 + 3 = 76) ?_ ?_
      · refine g_iconst hX dX3_serve_80 (rfl : 80 + 1 = 81) ?_
        exact wX3_serve_81 hX hk_37 v3 0 v3 Y110
      · refine g_iconst hX dX3_serve_76 (rfl : 76 + 1 = 77) ?_
        refine g_goto (pc' := 81) hX dX3_serve_77 (by decide) ?_
        exact wX3_serve_81 hX hk_37 v3 1 v3 Y110
set_option maxRecDepth 100000 in
theorem wX3_serve_14 {X : Cx} {D : va_G} {y : ClassId × ClassId × ClassId} {q : Nat → Nat} (hX : OKX X cX3_serve RX3 (rmk 5) (some .int) D y) (Y : St × St × St × St × St) : GF X cX3_serve D (0, 0) (QI X D y (wJ y q)) (fX3_serve_j14  Y) 14 [some (.ref (q 0)), none, none, none] [] (wJ y q Y) := by
  unfold fX3_serve_j14
  refine g_iconst hX dX3_serve_14 (rfl : 14 + 1 = 15) ?_
  exact g_iret hX dX3_serve_15
set_option maxRecDepth 100000 in
theorem kX3_serve (l : Launch) (D : va_G) (y : ClassId × ClassId × ClassId) (q : Nat → Nat) (Y : St × St × St × St × St) (a0 a1 : Int) : CtI l D y yX3_serve cX3_serve 4 (some .int) (rmk 5) [.ref (q 0), .int (iz a0), .int (iz a1)] (wJ y q) Y (fX3_serve Y a0 a1) := by
  refine ctI_of (own := RX3) rfl (by decide) (cat1 rfl) rfl (fun X hl hX => ?_)
  subst hl
  show GF X cX3_serve D (0, 0) (QI X D y (wJ y q)) (fX3_serve Y a0 a1) 0 [some (.ref (q 0)), some (.int (iz a0)), some (.int (iz a1)), none] [] (wJ y q Y)
  unfold fX3_serve
  refine g_iload_n hX dX3_serve_0 (rfl : 0 + 1 = 1) rfl ?_
  refine g_callp hX (kX3_isWay _ _ _ _) mw_X3_87 (by decide) rfl rfl (Nat.le_of_ble_eq_true rfl) dX3_serve_1 (rfl : 1 + 3 = 4) (fun r1 => ?_)
  refine g_if_eq (tgt := 14) hX dX3_serve_4 (by decide) (rfl : 4 + 3 = 7) ?_ ?_
  · refine g_drop (lv' := [some (.ref (q 0)), none, some (.int (iz a1)), none]) 1 rfl ?_
    refine g_drop (lv' := [some (.ref (q 0)), none, none, none]) 2 rfl ?_
    exact wX3_serve_14 hX  Y
  · refine g_iload_n hX dX3_serve_7 (rfl : 7 + 1 = 8) rfl ?_
    refine g_callp hX (kX3_isPlaces _ _ _ _) mw_X3_90 (by decide) rfl rfl (Nat.le_of_ble_eq_true rfl) dX3_serve_8 (rfl : 8 + 3 = 11) (fun r2 => ?_)
    refine g_if_ne (tgt := 16) hX dX3_serve_11 (by decide) (rfl : 11 + 3 = 14) ?_ ?_
    · refine g_aload_n hX dX3_serve_16 (rfl : 16 + 1 = 17) rfl ?_
      refine ge_J_X3_21_J hX dX3_serve_17 (rfl : 17 + 3 = 20) ?_
      refine g_iload_n hX dX3_serve_20 (rfl : 20 + 1 = 21) rfl ?_
      refine g_iload_n hX dX3_serve_21 (rfl : 21 + 1 = 22) rfl ?_
      refine cv_JU hX (kX2_begin _ _ _ (fun k => q (k + 10)) (fun k => q (k + 5)) _ _ _) mw_X3_93 (by decide) rfl rfl (Nat.le_of_ble_eq_true rfl) dX3_serve_22 (rfl : 22 + 3 = 25) (fun Y3 => ?_)
      refine g_aload_n hX dX3_serve_25 (rfl : 25 + 1 = 26) rfl ?_
      refine g_iconst hX dX3_serve_26 (rfl : 26 + 1 = 27) ?_
      refine pu_J_X3_97_J hX dX3_serve_27 (rfl : 27 + 3 = 30) (fun Y4 => ?_)
      refine g_aload_n hX dX3_serve_30 (rfl : 30 + 1 = 31) rfl ?_
      refine g_iconst hX dX3_serve_31 (rfl : 31 + 1 = 32) ?_
      refine pu_J_X3_100_J hX dX3_serve_32 (rfl : 32 + 3 = 35) (fun Y5 => ?_)
      refine g_iconst hX dX3_serve_35 (rfl : 35 + 1 = 36) ?_
      refine g_istore_n (lv' := fun x6 => [some (.ref (q 0)), some (.int (iz a0)), some (.int (iz a1)), some (.int (iz x6))]) hX dX3_serve_36 (rfl : 36 + 1 = 37) rfl (fun _ => rfl) (fun x6 => ?_)
      refine g_drop (lv' := [some (.ref (q 0)), none, some (.int (iz a1)), some (.int (iz x6))]) 1 rfl ?_
      refine g_drop (lv' := [some (.ref (q 0)), none, none, some (.int (iz x6))]) 2 rfl ?_
      exact wX3_serve_37 hX FU x6 Y5
    · refine g_drop (lv' := [some (.ref (q 0)), none, some (.int (iz a1)), none]) 1 rfl ?_
      refine g_drop (lv' := [some (.ref (q 0)), none, none, none]) 2 rfl ?_
      exact wX3_serve_14 hX  Y
set_option maxRecDepth 100000 in
theorem wX3_paid_16 {X : Cx} {D : va_G} {y : ClassId × ClassId × ClassId} {q : Nat → Nat} (hX : OKX X cX3_paid RX3 (rmk 0) (some .int) D y) (s0 : Int) (Y : St × St × St × St × St) : GF X cX3_paid D (0, 0) (QI X D y (wJ y q)) (fX3_paid_j16 s0 Y) 16 [some (.ref (q 0))] [.int (iz s0)] (wJ y q Y) := by
  unfold fX3_paid_j16
  exact g_iret hX dX3_paid_16
set_option maxRecDepth 100000 in
theorem kX3_paid (l : Launch) (D : va_G) (y : ClassId × ClassId × ClassId) (q : Nat → Nat) (Y : St × St × St × St × St) : CtI l D y yX3_paid cX3_paid 1 (some .int) (rmk 0) [.ref (q 0)] (wJ y q) Y (fX3_paid Y) := by
  refine ctI_of (own := RX3) rfl (by decide) (cat1 rfl) rfl (fun X hl hX => ?_)
  subst hl
  show GF X cX3_paid D (0, 0) (QI X D y (wJ y q)) (fX3_paid Y) 0 [some (.ref (q 0))] [] (wJ y q Y)
  unfold fX3_paid
  refine g_aload_n hX dX3_paid_0 (rfl : 0 + 1 = 1) rfl ?_
  refine ge_J_X3_52_J hX dX3_paid_1 (rfl : 1 + 3 = 4) ?_
  refine g_if_eq (tgt := 14) hX dX3_paid_4 (by decide) (rfl : 4 + 3 = 7) ?_ ?_
  · refine g_bipush hX dX3_paid_14 (by decide) (rfl : 14 + 2 = 16) ?_
    exact wX3_paid_16 hX ((-3)) Y
  · refine g_aload_n hX dX3_paid_7 (rfl : 7 + 1 = 8) rfl ?_
    refine ge_J_X3_100_J hX dX3_paid_8 (rfl : 8 + 3 = 11) ?_
    refine g_goto (pc' := 16) hX dX3_paid_11 (by decide) ?_
    exact wX3_paid_16 hX ((Y.1.1 10)) Y
set_option maxRecDepth 100000 in
theorem wX3_hit_31 {X : Cx} {D : va_G} {y : ClassId × ClassId × ClassId} {q : Nat → Nat} (hX : OKX X cX3_hit RX3 (rmk 1) (some .int) D y) (s0 : Int) (Y : St × St × St × St × St) : GF X cX3_hit D (0, 0) (QI X D y (wJ y q)) (fX3_hit_j31 s0 Y) 31 [some (.ref (q 0)), none] [.int (iz s0)] (wJ y q Y) := by
  unfold fX3_hit_j31
  exact g_iret hX dX3_hit_31
set_option maxRecDepth 100000 in
theorem kX3_hit (l : Launch) (D : va_G) (y : ClassId × ClassId × ClassId) (q : Nat → Nat) (Y : St × St × St × St × St) (a0 : Int) : CtI l D y yX3_hit cX3_hit 2 (some .int) (rmk 1) [.ref (q 0), .int (iz a0)] (wJ y q) Y (fX3_hit Y a0) := by
  refine ctI_of (own := RX3) rfl (by decide) (cat1 rfl) rfl (fun X hl hX => ?_)
  subst hl
  show GF X cX3_hit D (0, 0) (QI X D y (wJ y q)) (fX3_hit Y a0) 0 [some (.ref (q 0)), some (.int (iz a0))] [] (wJ y q Y)
  unfold fX3_hit
  refine g_aload_n hX dX3_hit_0 (rfl : 0 + 1 = 1) rfl ?_
  refine ge_J_X3_52_J hX dX3_hit_1 (rfl : 1 + 3 = 4) ?_
  refine g_if_ne (tgt := 10) hX dX3_hit_4 (by decide) (rfl : 4 + 3 = 7) ?_ ?_
  · refine g_aload_n hX dX3_hit_10 (rfl : 10 + 1 = 11) rfl ?_
    refine ge_J_X3_10_J hX dX3_hit_11 (rfl : 11 + 3 = 14) ?_
    refine g_iload_n hX dX3_hit_14 (rfl : 14 + 1 = 15) rfl ?_
    refine ci_JR hX (kX1_has _ _ _ (fun k => q (k + 5)) _ _) mw_X3_74 (by decide) rfl rfl (Nat.le_of_ble_eq_true rfl) dX3_hit_15 (rfl : 15 + 3 = 18) (fun r2 Y1 => ?_)
    refine g_if_eq (tgt := 30) hX dX3_hit_18 (by decide) (rfl : 18 + 3 = 21) ?_ ?_
    · refine g_iconst hX dX3_hit_30 (rfl : 30 + 1 = 31) ?_
      refine g_drop (lv' := [some (.ref (q 0)), none]) 1 rfl ?_
      exact wX3_hit_31 hX ((-1)) Y1
    · refine g_aload_n hX dX3_hit_21 (rfl : 21 + 1 = 22) rfl ?_
      refine ge_J_X3_42_J hX dX3_hit_22 (rfl : 22 + 3 = 25) ?_
      refine g_iload_n hX dX3_hit_25 (rfl : 25 + 1 = 26) rfl ?_
      refine al_J_J_6 hX dX3_hit_26 (rfl : 26 + 1 = 27) ?_
      refine g_goto (pc' := 31) hX dX3_hit_27 (by decide) ?_
      refine g_drop (lv' := [some (.ref (q 0)), none]) 1 rfl ?_
      exact wX3_hit_31 hX ((Y1.1.2 6 (Int.toNat a0))) Y1
  · refine g_bipush hX dX3_hit_7 (by decide) (rfl : 7 + 2 = 9) ?_
    exact g_iret hX dX3_hit_9
set_option maxRecDepth 100000 in
theorem wX3_gone_28 {X : Cx} {D : va_G} {y : ClassId × ClassId × ClassId} {q : Nat → Nat} (hX : OKX X cX3_gone RX3 (rmk 1) (some .int) D y) (s0 : Int) (Y : St × St × St × St × St) : GF X cX3_gone D (0, 0) (QI X D y (wJ y q)) (fX3_gone_j28 s0 Y) 28 [some (.ref (q 0)), none] [.int (iz s0)] (wJ y q Y) := by
  unfold fX3_gone_j28
  exact g_iret hX dX3_gone_28
set_option maxRecDepth 100000 in
theorem wX3_gone_27 {X : Cx} {D : va_G} {y : ClassId × ClassId × ClassId} {q : Nat → Nat} (hX : OKX X cX3_gone RX3 (rmk 1) (some .int) D y) (Y : St × St × St × St × St) : GF X cX3_gone D (0, 0) (QI X D y (wJ y q)) (fX3_gone_j27  Y) 27 [some (.ref (q 0)), none] [] (wJ y q Y) := by
  unfold fX3_gone_j27
  refine g_iconst hX dX3_gone_27 (rfl : 27 + 1 = 28) ?_
  exact wX3_gone_28 hX ((-1)) Y
set_option maxRecDepth 100000 in
theorem kX3_gone (l : Launch) (D : va_G) (y : ClassId × ClassId × ClassId) (q : Nat → Nat) (Y : St × St × St × St × St) (a0 : Int) : CtI l D y yX3_gone cX3_gone 2 (some .int) (rmk 1) [.ref (q 0), .int (iz a0)] (wJ y q) Y (fX3_gone Y a0) := by
  refine ctI_of (own := RX3) rfl (by decide) (cat1 rfl) rfl (fun X hl hX => ?_)
  subst hl
  show GF X cX3_gone D (0, 0) (QI X D y (wJ y q)) (fX3_gone Y a0) 0 [some (.ref (q 0)), some (.int (iz a0))] [] (wJ y q Y)
  unfold fX3_gone
  refine g_aload_n hX dX3_gone_0 (rfl : 0 + 1 = 1) rfl ?_
  refine ge_J_X3_52_J hX dX3_gone_1 (rfl : 1 + 3 = 4) ?_
  refine g_if_eq (tgt := 27) hX dX3_gone_4 (by decide) (rfl : 4 + 3 = 7) ?_ ?_
  · refine g_drop (lv' := [some (.ref (q 0)), none]) 1 rfl ?_
    exact wX3_gone_27 hX  Y
  · refine g_aload_n hX dX3_gone_7 (rfl : 7 + 1 = 8) rfl ?_
    refine ge_J_X3_10_J hX dX3_gone_8 (rfl : 8 + 3 = 11) ?_
    refine g_iload_n hX dX3_gone_11 (rfl : 11 + 1 = 12) rfl ?_
    refine ci_JR hX (kX1_has _ _ _ (fun k => q (k + 5)) _ _) mw_X3_74 (by decide) rfl rfl (Nat.le_of_ble_eq_true rfl) dX3_gone_12 (rfl : 12 + 3 = 15) (fun r2 Y1 => ?_)
    refine g_if_eq (tgt := 27) hX dX3_gone_15 (by decide) (rfl : 15 + 3 = 18) ?_ ?_
    · refine g_drop (lv' := [some (.ref (q 0)), none]) 1 rfl ?_
      exact wX3_gone_27 hX  Y1
    · refine g_aload_n hX dX3_gone_18 (rfl : 18 + 1 = 19) rfl ?_
      refine ge_J_X3_45_J hX dX3_gone_19 (rfl : 19 + 3 = 22) ?_
      refine g_iload_n hX dX3_gone_22 (rfl : 22 + 1 = 23) rfl ?_
      refine al_J_J_7 hX dX3_gone_23 (rfl : 23 + 1 = 24) ?_
      refine g_goto (pc' := 28) hX dX3_gone_24 (by decide) ?_
      refine g_drop (lv' := [some (.ref (q 0)), none]) 1 rfl ?_
      exact wX3_gone_28 hX ((Y1.1.2 7 (Int.toNat a0))) Y1
set_option maxRecDepth 100000 in
theorem wX3_look_37 {X : Cx} {D : va_G} {y : ClassId × ClassId × ClassId} {q : Nat → Nat} (hX : OKX X cX3_look RX3 (rmk 6) (some .int) D y) (Y : St × St × St × St × St) : GF X cX3_look D (0, 0) (QI X D y (wJ y q)) (fX3_look_j37  Y) 37 [some (.ref (q 0)), none, none, none] [] (wJ y q Y) := by
  unfold fX3_look_j37
  refine g_ldc hX (-2147483648) mc_X3_113 (by decide) dX3_look_37 (rfl : 37 + 2 = 39) ?_
  exact g_iret hX dX3_look_39
set_option maxRecDepth 100000 in
theorem kX3_look (l : Launch) (D : va_G) (y : ClassId × ClassId × ClassId) (q : Nat → Nat) (Y : St × St × St × St × St) (a0 a1 a2 : Int) : CtI l D y yX3_look cX3_look 4 (some .int) (rmk 6) [.ref (q 0), .int (iz a0), .int (iz a1), .int (iz a2)] (wJ y q) Y (fX3_look Y a0 a1 a2) := by
  refine ctI_of (own := RX3) rfl (by decide) (cat1 rfl) rfl (fun X hl hX => ?_)
  subst hl
  show GF X cX3_look D (0, 0) (QI X D y (wJ y q)) (fX3_look Y a0 a1 a2) 0 [some (.ref (q 0)), some (.int (iz a0)), some (.int (iz a1)), some (.int (iz a2))] [] (wJ y q Y)
  unfold fX3_look
  refine g_aload_n hX dX3_look_0 (rfl : 0 + 1 = 1) rfl ?_
  refine ge_J_X3_52_J hX dX3_look_1 (rfl : 1 + 3 = 4) ?_
  refine g_if_ne (tgt := 10) hX dX3_look_4 (by decide) (rfl : 4 + 3 = 7) ?_ ?_
  · refine g_aload_n hX dX3_look_10 (rfl : 10 + 1 = 11) rfl ?_
    refine ge_J_X3_10_J hX dX3_look_11 (rfl : 11 + 3 = 14) ?_
    refine g_iload_n hX dX3_look_14 (rfl : 14 + 1 = 15) rfl ?_
    refine ci_JR hX (kX1_has _ _ _ (fun k => q (k + 5)) _ _) mw_X3_74 (by decide) rfl rfl (Nat.le_of_ble_eq_true rfl) dX3_look_15 (rfl : 15 + 3 = 18) (fun r2 Y1 => ?_)
    refine g_if_eq (tgt := 37) hX dX3_look_18 (by decide) (rfl : 18 + 3 = 21) ?_ ?_
    · refine g_drop (lv' := [some (.ref (q 0)), none, some (.int (iz a1)), some (.int (iz a2))]) 1 rfl ?_
      refine g_drop (lv' := [some (.ref (q 0)), none, none, some (.int (iz a2))]) 2 rfl ?_
      refine g_drop (lv' := [some (.ref (q 0)), none, none, none]) 3 rfl ?_
      exact wX3_look_37 hX  Y1
    · refine g_iload_n hX dX3_look_21 (rfl : 21 + 1 = 22) rfl ?_
      refine g_callp hX (kX3_isThing _ _ _ _) mw_X3_56 (by decide) rfl rfl (Nat.le_of_ble_eq_true rfl) dX3_look_22 (rfl : 22 + 3 = 25) (fun r3 => ?_)
      refine g_if_eq (tgt := 37) hX dX3_look_25 (by decide) (rfl : 25 + 3 = 28) ?_ ?_
      · refine g_drop (lv' := [some (.ref (q 0)), none, some (.int (iz a1)), some (.int (iz a2))]) 1 rfl ?_
        refine g_drop (lv' := [some (.ref (q 0)), none, none, some (.int (iz a2))]) 2 rfl ?_
        refine g_drop (lv' := [some (.ref (q 0)), none, none, none]) 3 rfl ?_
        exact wX3_look_37 hX  Y1
      · refine g_iload_n hX dX3_look_28 (rfl : 28 + 1 = 29) rfl ?_
        refine g_if_lt (tgt := 37) hX dX3_look_29 (by decide) (rfl : 29 + 3 = 32) ?_ ?_
        · refine g_drop (lv' := [some (.ref (q 0)), none, some (.int (iz a1)), some (.int (iz a2))]) 1 rfl ?_
          refine g_drop (lv' := [some (.ref (q 0)), none, none, some (.int (iz a2))]) 2 rfl ?_
          refine g_drop (lv' := [some (.ref (q 0)), none, none, none]) 3 rfl ?_
          exact wX3_look_37 hX  Y1
        · refine g_iload_n hX dX3_look_32 (rfl : 32 + 1 = 33) rfl ?_
          refine g_iconst hX dX3_look_33 (rfl : 33 + 1 = 34) ?_
          refine g_icmp_le (tgt := 40) hX dX3_look_34 (by decide) (rfl : 34 + 3 = 37) ?_ ?_
          · refine g_aload_n hX dX3_look_40 (rfl : 40 + 1 = 41) rfl ?_
            refine ge_J_X3_21_J hX dX3_look_41 (rfl : 41 + 3 = 44) ?_
            refine g_iload_n hX dX3_look_44 (rfl : 44 + 1 = 45) rfl ?_
            refine ci_JU hX (kX2_knowsOfThing _ _ _ (fun k => q (k + 10)) (fun k => q (k + 5)) _ _) mw_X3_114 (by decide) rfl rfl (Nat.le_of_ble_eq_true rfl) dX3_look_45 (rfl : 45 + 3 = 48) (fun r5 Y4 => ?_)
            refine g_if_ne (tgt := 54) hX dX3_look_48 (by decide) (rfl : 48 + 3 = 51) ?_ ?_
            · refine g_aload_n hX dX3_look_54 (rfl : 54 + 1 = 55) rfl ?_
              refine ge_J_X3_21_J hX dX3_look_55 (rfl : 55 + 3 = 58) ?_
              refine g_iload_n hX dX3_look_58 (rfl : 58 + 1 = 59) rfl ?_
              refine cv_JU hX (kX2_standBehind _ _ _ (fun k => q (k + 10)) (fun k => q (k + 5)) _ _) mw_X3_118 (by decide) rfl rfl (Nat.le_of_ble_eq_true rfl) dX3_look_59 (rfl : 59 + 3 = 62) (fun Y6 => ?_)
              refine g_aload_n hX dX3_look_62 (rfl : 62 + 1 = 63) rfl ?_
              refine ge_J_X3_21_J hX dX3_look_63 (rfl : 63 + 3 = 66) ?_
              refine g_iload_n hX dX3_look_66 (rfl : 66 + 1 = 67) rfl ?_
              refine g_iload_n hX dX3_look_67 (rfl : 67 + 1 = 68) rfl ?_
              refine ci_JU hX (kX2_tellOfThing _ _ _ (fun k => q (k + 10)) (fun k => q (k + 5)) _ _ _) mw_X3_121 (by decide) rfl rfl (Nat.le_of_ble_eq_true rfl) dX3_look_68 (rfl : 68 + 3 = 71) (fun r8 Y7 => ?_)
              exact g_iret hX dX3_look_71
            · refine g_ldc hX (-2147483647) mc_X3_117 (by decide) dX3_look_51 (rfl : 51 + 2 = 53) ?_
              exact g_iret hX dX3_look_53
          · refine g_drop (lv' := [some (.ref (q 0)), none, some (.int (iz a1)), some (.int (iz a2))]) 1 rfl ?_
            refine g_drop (lv' := [some (.ref (q 0)), none, none, some (.int (iz a2))]) 2 rfl ?_
            refine g_drop (lv' := [some (.ref (q 0)), none, none, none]) 3 rfl ?_
            exact wX3_look_37 hX  Y1
  · refine g_bipush hX dX3_look_7 (by decide) (rfl : 7 + 2 = 9) ?_
    exact g_iret hX dX3_look_9
set_option maxRecDepth 100000 in
theorem wX3_level_30 {X : Cx} {D : va_G} {y : ClassId × ClassId × ClassId} {q : Nat → Nat} (hX : OKX X cX3_level RX3 (rmk 6) (some .int) D y) (Y : St × St × St × St × St) : GF X cX3_level D (0, 0) (QI X D y (wJ y q)) (fX3_level_j30  Y) 30 [some (.ref (q 0)), none, none] [] (wJ y q Y) := by
  unfold fX3_level_j30
  refine g_ldc hX (-2147483648) mc_X3_113 (by decide) dX3_level_30 (rfl : 30 + 2 = 32) ?_
  exact g_iret hX dX3_level_32
set_option maxRecDepth 100000 in
theorem kX3_level (l : Launch) (D : va_G) (y : ClassId × ClassId × ClassId) (q : Nat → Nat) (Y : St × St × St × St × St) (a0 a1 : Int) : CtI l D y yX3_level cX3_level 3 (some .int) (rmk 6) [.ref (q 0), .int (iz a0), .int (iz a1)] (wJ y q) Y (fX3_level Y a0 a1) := by
  refine ctI_of (own := RX3) rfl (by decide) (cat1 rfl) rfl (fun X hl hX => ?_)
  subst hl
  show GF X cX3_level D (0, 0) (QI X D y (wJ y q)) (fX3_level Y a0 a1) 0 [some (.ref (q 0)), some (.int (iz a0)), some (.int (iz a1))] [] (wJ y q Y)
  unfold fX3_level
  refine g_aload_n hX dX3_level_0 (rfl : 0 + 1 = 1) rfl ?_
  refine ge_J_X3_52_J hX dX3_level_1 (rfl : 1 + 3 = 4) ?_
  refine g_if_ne (tgt := 10) hX dX3_level_4 (by decide) (rfl : 4 + 3 = 7) ?_ ?_
  · refine g_aload_n hX dX3_level_10 (rfl : 10 + 1 = 11) rfl ?_
    refine ge_J_X3_10_J hX dX3_level_11 (rfl : 11 + 3 = 14) ?_
    refine g_iload_n hX dX3_level_14 (rfl : 14 + 1 = 15) rfl ?_
    refine ci_JR hX (kX1_has _ _ _ (fun k => q (k + 5)) _ _) mw_X3_74 (by decide) rfl rfl (Nat.le_of_ble_eq_true rfl) dX3_level_15 (rfl : 15 + 3 = 18) (fun r2 Y1 => ?_)
    refine g_if_eq (tgt := 30) hX dX3_level_18 (by decide) (rfl : 18 + 3 = 21) ?_ ?_
    · refine g_drop (lv' := [some (.ref (q 0)), none, some (.int (iz a1))]) 1 rfl ?_
      refine g_drop (lv' := [some (.ref (q 0)), none, none]) 2 rfl ?_
      exact wX3_level_30 hX  Y1
    · refine g_iload_n hX dX3_level_21 (rfl : 21 + 1 = 22) rfl ?_
      refine g_if_lt (tgt := 30) hX dX3_level_22 (by decide) (rfl : 22 + 3 = 25) ?_ ?_
      · refine g_drop (lv' := [some (.ref (q 0)), none, some (.int (iz a1))]) 1 rfl ?_
        refine g_drop (lv' := [some (.ref (q 0)), none, none]) 2 rfl ?_
        exact wX3_level_30 hX  Y1
      · refine g_iload_n hX dX3_level_25 (rfl : 25 + 1 = 26) rfl ?_
        refine g_iconst hX dX3_level_26 (rfl : 26 + 1 = 27) ?_
        refine g_icmp_le (tgt := 33) hX dX3_level_27 (by decide) (rfl : 27 + 3 = 30) ?_ ?_
        · refine g_aload_n hX dX3_level_33 (rfl : 33 + 1 = 34) rfl ?_
          refine ge_J_X3_21_J hX dX3_level_34 (rfl : 34 + 3 = 37) ?_
          refine g_iload_n hX dX3_level_37 (rfl : 37 + 1 = 38) rfl ?_
          refine ci_JU hX (kX2_knowsOfAll _ _ _ (fun k => q (k + 10)) (fun k => q (k + 5)) _ _) mw_X3_125 (by decide) rfl rfl (Nat.le_of_ble_eq_true rfl) dX3_level_38 (rfl : 38 + 3 = 41) (fun r4 Y3 => ?_)
          refine g_if_ne (tgt := 47) hX dX3_level_41 (by decide) (rfl : 41 + 3 = 44) ?_ ?_
          · refine g_aload_n hX dX3_level_47 (rfl : 47 + 1 = 48) rfl ?_
            refine ge_J_X3_21_J hX dX3_level_48 (rfl : 48 + 3 = 51) ?_
            refine g_iload_n hX dX3_level_51 (rfl : 51 + 1 = 52) rfl ?_
            refine cv_JU hX (kX2_standBehind _ _ _ (fun k => q (k + 10)) (fun k => q (k + 5)) _ _) mw_X3_118 (by decide) rfl rfl (Nat.le_of_ble_eq_true rfl) dX3_level_52 (rfl : 52 + 3 = 55) (fun Y5 => ?_)
            refine g_aload_n hX dX3_level_55 (rfl : 55 + 1 = 56) rfl ?_
            refine ge_J_X3_21_J hX dX3_level_56 (rfl : 56 + 3 = 59) ?_
            refine g_iload_n hX dX3_level_59 (rfl : 59 + 1 = 60) rfl ?_
            refine ci_JU hX (kX2_tellOfAll _ _ _ (fun k => q (k + 10)) (fun k => q (k + 5)) _ _) mw_X3_128 (by decide) rfl rfl (Nat.le_of_ble_eq_true rfl) dX3_level_60 (rfl : 60 + 3 = 63) (fun r7 Y6 => ?_)
            exact g_iret hX dX3_level_63
          · refine g_ldc hX (-2147483647) mc_X3_117 (by decide) dX3_level_44 (rfl : 44 + 2 = 46) ?_
            exact g_iret hX dX3_level_46
        · refine g_drop (lv' := [some (.ref (q 0)), none, some (.int (iz a1))]) 1 rfl ?_
          refine g_drop (lv' := [some (.ref (q 0)), none, none]) 2 rfl ?_
          exact wX3_level_30 hX  Y1
  · refine g_bipush hX dX3_level_7 (by decide) (rfl : 7 + 2 = 9) ?_
    exact g_iret hX dX3_level_9
set_option maxRecDepth 100000 in
theorem wX3_fewest_61 {X : Cx} {D : va_G} {y : ClassId × ClassId × ClassId} {q : Nat → Nat} (hX : OKX X cX3_fewest RX3 (rmk 6) (some .int) D y) (v2 : Int) (Y : St × St × St × St × St) : GF X cX3_fewest D (0, 0) (QI X D y (wJ y q)) (fX3_fewest_j61 v2 Y) 61 [some (.ref (q 0)), none, some (.int (iz v2)), none, none, none] [] (wJ y q Y) := by
  unfold fX3_fewest_j61
  refine g_iload_n hX dX3_fewest_61 (rfl : 61 + 1 = 62) rfl ?_
  exact g_iret hX dX3_fewest_62
set_option maxRecDepth 100000 in
theorem wX3_fewest_55 {X : Cx} {D : va_G} {y : ClassId × ClassId × ClassId} {q : Nat → Nat} (hX : OKX X cX3_fewest RX3 (rmk 6) (some .int) D y) {k_24 : Int → Int → Int → Int → (St × St × St × St × St) → Option (Int × (St × St × St × St × St))} (hk_24 : ∀ (v1 v2 v3 v4 : Int) (Y : St × St × St × St × St), GF X cX3_fewest D (0, 0) (QI X D y (wJ y q)) (k_24 v1 v2 v3 v4 Y) 24 [some (.ref (q 0)), some (.int (iz v1)), some (.int (iz v2)), some (.int (iz v3)), some (.int (iz v4)), none] [] (wJ y q Y)) (v1 v2 v3 v4 : Int) (Y : St × St × St × St × St) : GF X cX3_fewest D (0, 0) (QI X D y (wJ y q)) (fX3_fewest_j55 k_24 v1 v2 v3 v4 Y) 55 [some (.ref (q 0)), some (.int (iz v1)), some (.int (iz v2)), some (.int (iz v3)), some (.int (iz v4)), none] [] (wJ y q Y) := by
  unfold fX3_fewest_j55
  refine g_iinc (lv' := fun x101 => [some (.ref (q 0)), some (.int (iz v1)), some (.int (iz v2)), some (.int (iz v3)), some (.int (iz x101)), none]) hX dX3_fewest_55 (rfl : 55 + 3 = 58) rfl (fun _ => rfl) (fun x101 => ?_)
  refine g_goto (pc' := 24) hX dX3_fewest_58 (by decide) ?_
  exact hk_24 v1 v2 v3 x101 Y
set_option maxRecDepth 100000 in
theorem wX3_fewest_24 {X : Cx} {D : va_G} {y : ClassId × ClassId × ClassId} {q : Nat → Nat} (hX : OKX X cX3_fewest RX3 (rmk 6) (some .int) D y) : ∀ (n : Nat) (v1 v2 v3 v4 : Int) (Y : St × St × St × St × St), GF X cX3_fewest D (0, 0) (QI X D y (wJ y q)) (fX3_fewest_l24 n v1 v2 v3 v4 Y) 24 [some (.ref (q 0)), some (.int (iz v1)), some (.int (iz v2)), some (.int (iz v3)), some (.int (iz v4)), none] [] (wJ y q Y) := by
  intro n
  induction n with
  | zero => intro v1 v2 v3 v4 Y; exact g_none
  | succ n hk_24 =>
    intro v1 v2 v3 v4 Y
    unfold fX3_fewest_l24
    refine g_iload hX dX3_fewest_24 (rfl : 24 + 2 = 26) rfl ?_
    refine g_bipush hX dX3_fewest_26 (by decide) (rfl : 26 + 2 = 28) ?_
    refine g_icmp_ge (tgt := 61) hX dX3_fewest_28 (by decide) (rfl : 28 + 3 = 31) ?_ ?_
    · refine g_drop (lv' := [some (.ref (q 0)), none, some (.int (iz v2)), some (.int (iz v3)), some (.int (iz v4)), none]) 1 rfl ?_
      refine g_drop (lv' := [some (.ref (q 0)), none, some (.int (iz v2)), none, some (.int (iz v4)), none]) 3 rfl ?_
      refine g_drop (lv' := [some (.ref (q 0)), none, some (.int (iz v2)), none, none, none]) 4 rfl ?_
      exact wX3_fewest_61 hX v2 Y
    · refine g_aload_n hX dX3_fewest_31 (rfl : 31 + 1 = 32) rfl ?_
      refine ge_J_X3_25_J hX dX3_fewest_32 (rfl : 32 + 3 = 35) ?_
      refine g_iload hX dX3_fewest_35 (rfl : 35 + 2 = 37) rfl ?_
      refine g_iload_n hX dX3_fewest_37 (rfl : 37 + 1 = 38) rfl ?_
      refine ci_JV hX (kX2_missesBy _ _ _ (fun k => q (k + 19)) (fun k => q (k + 5)) _ _ _) mw_X3_131 (by decide) rfl rfl (Nat.le_of_ble_eq_true rfl) dX3_fewest_38 (rfl : 38 + 3 = 41) (fun r103 Y102 => ?_)
      refine g_istore (lv' := fun x104 => [some (.ref (q 0)), some (.int (iz v1)), some (.int (iz v2)), some (.int (iz v3)), some (.int (iz v4)), some (.int (iz x104))]) hX dX3_fewest_41 (rfl : 41 + 2 = 43) rfl (fun _ => rfl) (fun x104 => ?_)
      refine g_iload hX dX3_fewest_43 (rfl : 43 + 2 = 45) rfl ?_
      refine g_iload_n hX dX3_fewest_45 (rfl : 45 + 1 = 46) rfl ?_
      refine g_icmp_ge (tgt := 55) hX dX3_fewest_46 (by decide) (rfl : 46 + 3 = 49) ?_ ?_
      · refine g_drop (lv' := [some (.ref (q 0)), some (.int (iz v1)), some (.int (iz v2)), some (.int (iz v3)), some (.int (iz v4)), none]) 5 rfl ?_
        exact wX3_fewest_55 hX hk_24 v1 v2 v3 v4 Y102
      · refine g_iload hX dX3_fewest_49 (rfl : 49 + 2 = 51) rfl ?_
        refine g_istore_n (lv' := fun x105 => [some (.ref (q 0)), some (.int (iz v1)), some (.int (iz x105)), some (.int (iz v3)), some (.int (iz v4)), some (.int (iz x104))]) hX dX3_fewest_51 (rfl : 51 + 1 = 52) rfl (fun _ => rfl) (fun x105 => ?_)
        refine g_iload hX dX3_fewest_52 (rfl : 52 + 2 = 54) rfl ?_
        refine g_istore_n (lv' := fun x106 => [some (.ref (q 0)), some (.int (iz v1)), some (.int (iz x105)), some (.int (iz x106)), some (.int (iz v4)), some (.int (iz x104))]) hX dX3_fewest_54 (rfl : 54 + 1 = 55) rfl (fun _ => rfl) (fun x106 => ?_)
        refine g_drop (lv' := [some (.ref (q 0)), some (.int (iz v1)), some (.int (iz x105)), some (.int (iz x106)), some (.int (iz v4)), none]) 5 rfl ?_
        exact wX3_fewest_55 hX hk_24 v1 x105 x106 v4 Y102
set_option maxRecDepth 100000 in
theorem kX3_fewest (l : Launch) (D : va_G) (y : ClassId × ClassId × ClassId) (q : Nat → Nat) (Y : St × St × St × St × St) (a0 : Int) : CtI l D y yX3_fewest cX3_fewest 6 (some .int) (rmk 6) [.ref (q 0), .int (iz a0)] (wJ y q) Y (fX3_fewest Y a0) := by
  refine ctI_of (own := RX3) rfl (by decide) (cat1 rfl) rfl (fun X hl hX => ?_)
  subst hl
  show GF X cX3_fewest D (0, 0) (QI X D y (wJ y q)) (fX3_fewest Y a0) 0 [some (.ref (q 0)), some (.int (iz a0)), none, none, none, none] [] (wJ y q Y)
  unfold fX3_fewest
  refine g_iload_n hX dX3_fewest_0 (rfl : 0 + 1 = 1) rfl ?_
  refine g_callp hX (kX3_isPlaces _ _ _ _) mw_X3_90 (by decide) rfl rfl (Nat.le_of_ble_eq_true rfl) dX3_fewest_1 (rfl : 1 + 3 = 4) (fun r1 => ?_)
  refine g_if_ne (tgt := 9) hX dX3_fewest_4 (by decide) (rfl : 4 + 3 = 7) ?_ ?_
  · refine g_iconst hX dX3_fewest_9 (rfl : 9 + 1 = 10) ?_
    refine g_istore_n (lv' := fun x2 => [some (.ref (q 0)), some (.int (iz a0)), some (.int (iz x2)), none, none, none]) hX dX3_fewest_10 (rfl : 10 + 1 = 11) rfl (fun _ => rfl) (fun x2 => ?_)
    refine g_aload_n hX dX3_fewest_11 (rfl : 11 + 1 = 12) rfl ?_
    refine ge_J_X3_25_J hX dX3_fewest_12 (rfl : 12 + 3 = 15) ?_
    refine g_iconst hX dX3_fewest_15 (rfl : 15 + 1 = 16) ?_
    refine g_iload_n hX dX3_fewest_16 (rfl : 16 + 1 = 17) rfl ?_
    refine ci_JV hX (kX2_missesBy _ _ _ (fun k => q (k + 19)) (fun k => q (k + 5)) _ _ _) mw_X3_131 (by decide) rfl rfl (Nat.le_of_ble_eq_true rfl) dX3_fewest_17 (rfl : 17 + 3 = 20) (fun r4 Y3 => ?_)
    refine g_istore_n (lv' := fun x5 => [some (.ref (q 0)), some (.int (iz a0)), some (.int (iz x2)), some (.int (iz x5)), none, none]) hX dX3_fewest_20 (rfl : 20 + 1 = 21) rfl (fun _ => rfl) (fun x5 => ?_)
    refine g_iconst hX dX3_fewest_21 (rfl : 21 + 1 = 22) ?_
    refine g_istore (lv' := fun x6 => [some (.ref (q 0)), some (.int (iz a0)), some (.int (iz x2)), some (.int (iz x5)), some (.int (iz x6)), none]) hX dX3_fewest_22 (rfl : 22 + 2 = 24) rfl (fun _ => rfl) (fun x6 => ?_)
    exact wX3_fewest_24 hX FU a0 x2 x5 x6 Y3
  · refine g_iconst hX dX3_fewest_7 (rfl : 7 + 1 = 8) ?_
    exact g_iret hX dX3_fewest_8
set_option maxRecDepth 100000 in
theorem kX3_share (l : Launch) (D : va_G) (y : ClassId × ClassId × ClassId) (q : Nat → Nat) (Y : St × St × St × St × St) : CtI l D y yX3_share cX3_share 3 (some .int) (rmk 0) [.ref (q 0)] (wJ y q) Y (fX3_share Y) := by
  refine ctI_of (own := RX3) rfl (by decide) (cat1 rfl) rfl (fun X hl hX => ?_)
  subst hl
  show GF X cX3_share D (0, 0) (QI X D y (wJ y q)) (fX3_share Y) 0 [some (.ref (q 0)), none, none] [] (wJ y q Y)
  unfold fX3_share
  refine g_aload_n hX dX3_share_0 (rfl : 0 + 1 = 1) rfl ?_
  refine ge_J_X3_52_J hX dX3_share_1 (rfl : 1 + 3 = 4) ?_
  refine g_if_ne (tgt := 10) hX dX3_share_4 (by decide) (rfl : 4 + 3 = 7) ?_ ?_
  · refine g_aload_n hX dX3_share_10 (rfl : 10 + 1 = 11) rfl ?_
    refine ge_J_X3_10_J hX dX3_share_11 (rfl : 11 + 3 = 14) ?_
    refine ge_J_X3_66_R hX dX3_share_14 (rfl : 14 + 3 = 17) ?_
    refine g_iconst hX dX3_share_17 (rfl : 17 + 1 = 18) ?_
    refine g_icmp_ge (tgt := 23) hX dX3_share_18 (by decide) (rfl : 18 + 3 = 21) ?_ ?_
    · refine g_aload_n hX dX3_share_23 (rfl : 23 + 1 = 24) rfl ?_
      refine ge_J_X3_10_J hX dX3_share_24 (rfl : 24 + 3 = 27) ?_
      refine ge_J_X3_66_R hX dX3_share_27 (rfl : 27 + 3 = 30) ?_
      refine g_aload_n hX dX3_share_30 (rfl : 30 + 1 = 31) rfl ?_
      refine ge_J_X3_97_J hX dX3_share_31 (rfl : 31 + 3 = 34) ?_
      refine g_isub hX dX3_share_34 (rfl : 34 + 1 = 35) ?_
      refine g_istore_n (lv' := fun x1 => [some (.ref (q 0)), some (.int (iz x1)), none]) hX dX3_share_35 (rfl : 35 + 1 = 36) rfl (fun _ => rfl) (fun x1 => ?_)
      refine g_iload_n hX dX3_share_36 (rfl : 36 + 1 = 37) rfl ?_
      refine g_i2f hX dX3_share_37 (rfl : 37 + 1 = 38) ?_
      refine g_aload_n hX dX3_share_38 (rfl : 38 + 1 = 39) rfl ?_
      refine ge_J_X3_10_J hX dX3_share_39 (rfl : 39 + 3 = 42) ?_
      refine ge_J_X3_66_R hX dX3_share_42 (rfl : 42 + 3 = 45) ?_
      refine g_i2f hX dX3_share_45 (rfl : 45 + 1 = 46) ?_
      refine g_fdiv hX dX3_share_46 (rfl : 46 + 1 = 47) ?_
      refine g_fstore_n (lv' := [some (.ref (q 0)), some (.int (iz x1)), some (.float (FP.fdiv (FP.i2f (iz x1)) (FP.i2f (iz (Y.2.1.1 4)))))]) hX dX3_share_47 (rfl : 47 + 1 = 48) rfl rfl ?_
      refine g_fload_n hX dX3_share_48 (rfl : 48 + 1 = 49) rfl ?_
      refine g_ldcf hX mc_X3_134 dX3_share_49 (rfl : 49 + 2 = 51) ?_
      refine g_fmul hX dX3_share_51 (rfl : 51 + 1 = 52) ?_
      refine g_f2i hX dX3_share_52 (rfl : 52 + 1 = 53) ?_
      exact g_iret hX dX3_share_53
    · refine g_iconst hX dX3_share_21 (rfl : 21 + 1 = 22) ?_
      exact g_iret hX dX3_share_22
  · refine g_bipush hX dX3_share_7 (by decide) (rfl : 7 + 2 = 9) ?_
    exact g_iret hX dX3_share_9
set_option maxRecDepth 100000 in
theorem kX3_least (l : Launch) (D : va_G) (y : ClassId × ClassId × ClassId) (q : Nat → Nat) (Y : St × St × St × St × St) (a0 : Int) : CtI l D y yX3_least cX3_least 2 (some .int) (rmk 3) [.ref (q 0), .int (iz a0)] (wJ y q) Y (fX3_least Y a0) := by
  refine ctI_of (own := RX3) rfl (by decide) (cat1 rfl) rfl (fun X hl hX => ?_)
  subst hl
  show GF X cX3_least D (0, 0) (QI X D y (wJ y q)) (fX3_least Y a0) 0 [some (.ref (q 0)), some (.int (iz a0))] [] (wJ y q Y)
  unfold fX3_least
  refine g_iload_n hX dX3_least_0 (rfl : 0 + 1 = 1) rfl ?_
  refine g_callp hX (kX3_isPlaces _ _ _ _) mw_X3_90 (by decide) rfl rfl (Nat.le_of_ble_eq_true rfl) dX3_least_1 (rfl : 1 + 3 = 4) (fun r1 => ?_)
  refine g_if_ne (tgt := 9) hX dX3_least_4 (by decide) (rfl : 4 + 3 = 7) ?_ ?_
  · refine g_aload_n hX dX3_least_9 (rfl : 9 + 1 = 10) rfl ?_
    refine ge_J_X3_10_J hX dX3_least_10 (rfl : 10 + 3 = 13) ?_
    refine ci_JR hX (kX1_unlike _ _ _ (fun k => q (k + 5)) _) mw_X3_80 (by decide) rfl rfl (Nat.le_of_ble_eq_true rfl) dX3_least_13 (rfl : 13 + 3 = 16) (fun r3 Y2 => ?_)
    refine g_bipush hX dX3_least_16 (by decide) (rfl : 16 + 2 = 18) ?_
    refine g_icmp_le (tgt := 24) hX dX3_least_18 (by decide) (rfl : 18 + 3 = 21) ?_ ?_
    · refine g_aload_n hX dX3_least_24 (rfl : 24 + 1 = 25) rfl ?_
      refine ge_J_X3_31_J hX dX3_least_25 (rfl : 25 + 3 = 28) ?_
      refine g_iload_n hX dX3_least_28 (rfl : 28 + 1 = 29) rfl ?_
      refine cv_JT hX (kX0_prepare _ _ _ (fun k => q (k + 28)) (fun k => q (k + 5)) _ _) mw_X3_135 (by decide) rfl rfl (Nat.le_of_ble_eq_true rfl) dX3_least_29 (rfl : 29 + 3 = 32) (fun Y4 => ?_)
      refine g_aload_n hX dX3_least_32 (rfl : 32 + 1 = 33) rfl ?_
      refine ge_J_X3_31_J hX dX3_least_33 (rfl : 33 + 3 = 36) ?_
      refine ge_J_X3_138_T hX dX3_least_36 (rfl : 36 + 3 = 39) ?_
      exact g_iret hX dX3_least_39
    · refine g_bipush hX dX3_least_21 (by decide) (rfl : 21 + 2 = 23) ?_
      exact g_iret hX dX3_least_23
  · refine g_iconst hX dX3_least_7 (rfl : 7 + 1 = 8) ?_
    exact g_iret hX dX3_least_8
set_option maxRecDepth 100000 in
theorem wX3_goes_30 {X : Cx} {D : va_G} {y : ClassId × ClassId × ClassId} {q : Nat → Nat} (hX : OKX X cX3_goes RX3 (rmk 3) (some .int) D y) (Y : St × St × St × St × St) : GF X cX3_goes D (0, 0) (QI X D y (wJ y q)) (fX3_goes_j30  Y) 30 [some (.ref (q 0)), none, none] [] (wJ y q Y) := by
  unfold fX3_goes_j30
  refine g_iconst hX dX3_goes_30 (rfl : 30 + 1 = 31) ?_
  exact g_iret hX dX3_goes_31
set_option maxRecDepth 100000 in
theorem kX3_goes (l : Launch) (D : va_G) (y : ClassId × ClassId × ClassId) (q : Nat → Nat) (Y : St × St × St × St × St) (a0 a1 : Int) : CtI l D y yX3_goes cX3_goes 3 (some .int) (rmk 3) [.ref (q 0), .int (iz a0), .int (iz a1)] (wJ y q) Y (fX3_goes Y a0 a1) := by
  refine ctI_of (own := RX3) rfl (by decide) (cat1 rfl) rfl (fun X hl hX => ?_)
  subst hl
  show GF X cX3_goes D (0, 0) (QI X D y (wJ y q)) (fX3_goes Y a0 a1) 0 [some (.ref (q 0)), some (.int (iz a0)), some (.int (iz a1))] [] (wJ y q Y)
  unfold fX3_goes
  refine g_aload_n hX dX3_goes_0 (rfl : 0 + 1 = 1) rfl ?_
  refine ge_J_X3_10_J hX dX3_goes_1 (rfl : 1 + 3 = 4) ?_
  refine g_iload_n hX dX3_goes_4 (rfl : 4 + 1 = 5) rfl ?_
  refine ci_JR hX (kX1_has _ _ _ (fun k => q (k + 5)) _ _) mw_X3_74 (by decide) rfl rfl (Nat.le_of_ble_eq_true rfl) dX3_goes_5 (rfl : 5 + 3 = 8) (fun r2 Y1 => ?_)
  refine g_if_eq (tgt := 30) hX dX3_goes_8 (by decide) (rfl : 8 + 3 = 11) ?_ ?_
  · refine g_drop (lv' := [some (.ref (q 0)), none, some (.int (iz a1))]) 1 rfl ?_
    refine g_drop (lv' := [some (.ref (q 0)), none, none]) 2 rfl ?_
    exact wX3_goes_30 hX  Y1
  · refine g_iload_n hX dX3_goes_11 (rfl : 11 + 1 = 12) rfl ?_
    refine g_callp hX (kX3_isPlaces _ _ _ _) mw_X3_90 (by decide) rfl rfl (Nat.le_of_ble_eq_true rfl) dX3_goes_12 (rfl : 12 + 3 = 15) (fun r3 => ?_)
    refine g_if_eq (tgt := 30) hX dX3_goes_15 (by decide) (rfl : 15 + 3 = 18) ?_ ?_
    · refine g_drop (lv' := [some (.ref (q 0)), none, some (.int (iz a1))]) 1 rfl ?_
      refine g_drop (lv' := [some (.ref (q 0)), none, none]) 2 rfl ?_
      exact wX3_goes_30 hX  Y1
    · refine g_aload_n hX dX3_goes_18 (rfl : 18 + 1 = 19) rfl ?_
      refine ge_J_X3_10_J hX dX3_goes_19 (rfl : 19 + 3 = 22) ?_
      refine ci_JR hX (kX1_unlike _ _ _ (fun k => q (k + 5)) _) mw_X3_80 (by decide) rfl rfl (Nat.le_of_ble_eq_true rfl) dX3_goes_22 (rfl : 22 + 3 = 25) (fun r5 Y4 => ?_)
      refine g_bipush hX dX3_goes_25 (by decide) (rfl : 25 + 2 = 27) ?_
      refine g_icmp_le (tgt := 32) hX dX3_goes_27 (by decide) (rfl : 27 + 3 = 30) ?_ ?_
      · refine g_aload_n hX dX3_goes_32 (rfl : 32 + 1 = 33) rfl ?_
        refine ge_J_X3_31_J hX dX3_goes_33 (rfl : 33 + 3 = 36) ?_
        refine g_iload_n hX dX3_goes_36 (rfl : 36 + 1 = 37) rfl ?_
        refine cv_JT hX (kX0_prepare _ _ _ (fun k => q (k + 28)) (fun k => q (k + 5)) _ _) mw_X3_135 (by decide) rfl rfl (Nat.le_of_ble_eq_true rfl) dX3_goes_37 (rfl : 37 + 3 = 40) (fun Y6 => ?_)
        refine g_aload_n hX dX3_goes_40 (rfl : 40 + 1 = 41) rfl ?_
        refine ge_J_X3_31_J hX dX3_goes_41 (rfl : 41 + 3 = 44) ?_
        refine ge_J_X3_141_T hX dX3_goes_44 (rfl : 44 + 3 = 47) ?_
        refine g_iload_n hX dX3_goes_47 (rfl : 47 + 1 = 48) rfl ?_
        refine al_J_T_7 hX dX3_goes_48 (rfl : 48 + 1 = 49) ?_
        exact g_iret hX dX3_goes_49
      · refine g_drop (lv' := [some (.ref (q 0)), none, some (.int (iz a1))]) 1 rfl ?_
        refine g_drop (lv' := [some (.ref (q 0)), none, none]) 2 rfl ?_
        exact wX3_goes_30 hX  Y4
set_option maxRecDepth 100000 in
theorem wX3_phases_43 {X : Cx} {D : va_G} {y : ClassId × ClassId × ClassId} {q : Nat → Nat} (hX : OKX X cX3_phases RX3 (rmk 2) (some .int) D y) (s0 : Int) (Y : St × St × St × St × St) : GF X cX3_phases D (0, 0) (QI X D y (wJ y q)) (fX3_phases_j43 s0 Y) 43 [some (.ref (q 0)), none] [.int (iz s0)] (wJ y q Y) := by
  unfold fX3_phases_j43
  exact g_iret hX dX3_phases_43
set_option maxRecDepth 100000 in
theorem kX3_phases (l : Launch) (D : va_G) (y : ClassId × ClassId × ClassId) (q : Nat → Nat) (Y : St × St × St × St × St) (a0 : Int) : CtI l D y yX3_phases cX3_phases 2 (some .int) (rmk 2) [.ref (q 0), .int (iz a0)] (wJ y q) Y (fX3_phases Y a0) := by
  refine ctI_of (own := RX3) rfl (by decide) (cat1 rfl) rfl (fun X hl hX => ?_)
  subst hl
  show GF X cX3_phases D (0, 0) (QI X D y (wJ y q)) (fX3_phases Y a0) 0 [some (.ref (q 0)), some (.int (iz a0))] [] (wJ y q Y)
  unfold fX3_phases
  refine g_iload_n hX dX3_phases_0 (rfl : 0 + 1 = 1) rfl ?_
  refine g_callp hX (kX3_isPlaces _ _ _ _) mw_X3_90 (by decide) rfl rfl (Nat.le_of_ble_eq_true rfl) dX3_phases_1 (rfl : 1 + 3 = 4) (fun r1 => ?_)
  refine g_if_ne (tgt := 9) hX dX3_phases_4 (by decide) (rfl : 4 + 3 = 7) ?_ ?_
  · refine g_aload_n hX dX3_phases_9 (rfl : 9 + 1 = 10) rfl ?_
    refine ge_J_X3_10_J hX dX3_phases_10 (rfl : 10 + 3 = 13) ?_
    refine ge_J_X3_66_R hX dX3_phases_13 (rfl : 13 + 3 = 16) ?_
    refine g_iconst hX dX3_phases_16 (rfl : 16 + 1 = 17) ?_
    refine g_icmp_ge (tgt := 24) hX dX3_phases_17 (by decide) (rfl : 17 + 3 = 20) ?_ ?_
    · refine g_aload_n hX dX3_phases_24 (rfl : 24 + 1 = 25) rfl ?_
      refine ge_J_X3_10_J hX dX3_phases_25 (rfl : 25 + 3 = 28) ?_
      refine g_iload_n hX dX3_phases_28 (rfl : 28 + 1 = 29) rfl ?_
      refine g_aload_n hX dX3_phases_29 (rfl : 29 + 1 = 30) rfl ?_
      refine ge_J_X3_10_J hX dX3_phases_30 (rfl : 30 + 3 = 33) ?_
      refine ge_J_X3_66_R hX dX3_phases_33 (rfl : 33 + 3 = 36) ?_
      refine g_iconst hX dX3_phases_36 (rfl : 36 + 1 = 37) ?_
      refine g_isub hX dX3_phases_37 (rfl : 37 + 1 = 38) ?_
      refine ci_JR hX (kX1_phaseAt _ _ _ (fun k => q (k + 5)) _ _ _) mw_X3_144 (by decide) rfl rfl (Nat.le_of_ble_eq_true rfl) dX3_phases_38 (rfl : 38 + 3 = 41) (fun r3 Y2 => ?_)
      refine g_iconst hX dX3_phases_41 (rfl : 41 + 1 = 42) ?_
      refine g_iadd hX dX3_phases_42 (rfl : 42 + 1 = 43) ?_
      refine g_drop (lv' := [some (.ref (q 0)), none]) 1 rfl ?_
      exact wX3_phases_43 hX ((r3 + 1)) Y2
    · refine g_iconst hX dX3_phases_20 (rfl : 20 + 1 = 21) ?_
      refine g_goto (pc' := 43) hX dX3_phases_21 (by decide) ?_
      refine g_drop (lv' := [some (.ref (q 0)), none]) 1 rfl ?_
      exact wX3_phases_43 hX 0 Y
  · refine g_iconst hX dX3_phases_7 (rfl : 7 + 1 = 8) ?_
    exact g_iret hX dX3_phases_8
set_option maxRecDepth 100000 in
theorem wX3_phase_31 {X : Cx} {D : va_G} {y : ClassId × ClassId × ClassId} {q : Nat → Nat} (hX : OKX X cX3_phase RX3 (rmk 2) (some .int) D y) (s0 : Int) (Y : St × St × St × St × St) : GF X cX3_phase D (0, 0) (QI X D y (wJ y q)) (fX3_phase_j31 s0 Y) 31 [some (.ref (q 0)), none, none] [.int (iz s0)] (wJ y q Y) := by
  unfold fX3_phase_j31
  exact g_iret hX dX3_phase_31
set_option maxRecDepth 100000 in
theorem wX3_phase_30 {X : Cx} {D : va_G} {y : ClassId × ClassId × ClassId} {q : Nat → Nat} (hX : OKX X cX3_phase RX3 (rmk 2) (some .int) D y) (Y : St × St × St × St × St) : GF X cX3_phase D (0, 0) (QI X D y (wJ y q)) (fX3_phase_j30  Y) 30 [some (.ref (q 0)), none, none] [] (wJ y q Y) := by
  unfold fX3_phase_j30
  refine g_iconst hX dX3_phase_30 (rfl : 30 + 1 = 31) ?_
  exact wX3_phase_31 hX ((-1)) Y
set_option maxRecDepth 100000 in
theorem kX3_phase (l : Launch) (D : va_G) (y : ClassId × ClassId × ClassId) (q : Nat → Nat) (Y : St × St × St × St × St) (a0 a1 : Int) : CtI l D y yX3_phase cX3_phase 3 (some .int) (rmk 2) [.ref (q 0), .int (iz a0), .int (iz a1)] (wJ y q) Y (fX3_phase Y a0 a1) := by
  refine ctI_of (own := RX3) rfl (by decide) (cat1 rfl) rfl (fun X hl hX => ?_)
  subst hl
  show GF X cX3_phase D (0, 0) (QI X D y (wJ y q)) (fX3_phase Y a0 a1) 0 [some (.ref (q 0)), some (.int (iz a0)), some (.int (iz a1))] [] (wJ y q Y)
  unfold fX3_phase
  refine g_aload_n hX dX3_phase_0 (rfl : 0 + 1 = 1) rfl ?_
  refine ge_J_X3_10_J hX dX3_phase_1 (rfl : 1 + 3 = 4) ?_
  refine g_iload_n hX dX3_phase_4 (rfl : 4 + 1 = 5) rfl ?_
  refine ci_JR hX (kX1_has _ _ _ (fun k => q (k + 5)) _ _) mw_X3_74 (by decide) rfl rfl (Nat.le_of_ble_eq_true rfl) dX3_phase_5 (rfl : 5 + 3 = 8) (fun r2 Y1 => ?_)
  refine g_if_eq (tgt := 30) hX dX3_phase_8 (by decide) (rfl : 8 + 3 = 11) ?_ ?_
  · refine g_drop (lv' := [some (.ref (q 0)), none, some (.int (iz a1))]) 1 rfl ?_
    refine g_drop (lv' := [some (.ref (q 0)), none, none]) 2 rfl ?_
    exact wX3_phase_30 hX  Y1
  · refine g_iload_n hX dX3_phase_11 (rfl : 11 + 1 = 12) rfl ?_
    refine g_callp hX (kX3_isPlaces _ _ _ _) mw_X3_90 (by decide) rfl rfl (Nat.le_of_ble_eq_true rfl) dX3_phase_12 (rfl : 12 + 3 = 15) (fun r3 => ?_)
    refine g_if_eq (tgt := 30) hX dX3_phase_15 (by decide) (rfl : 15 + 3 = 18) ?_ ?_
    · refine g_drop (lv' := [some (.ref (q 0)), none, some (.int (iz a1))]) 1 rfl ?_
      refine g_drop (lv' := [some (.ref (q 0)), none, none]) 2 rfl ?_
      exact wX3_phase_30 hX  Y1
    · refine g_aload_n hX dX3_phase_18 (rfl : 18 + 1 = 19) rfl ?_
      refine ge_J_X3_10_J hX dX3_phase_19 (rfl : 19 + 3 = 22) ?_
      refine g_iload_n hX dX3_phase_22 (rfl : 22 + 1 = 23) rfl ?_
      refine g_iload_n hX dX3_phase_23 (rfl : 23 + 1 = 24) rfl ?_
      refine ci_JR hX (kX1_phaseAt _ _ _ (fun k => q (k + 5)) _ _ _) mw_X3_144 (by decide) rfl rfl (Nat.le_of_ble_eq_true rfl) dX3_phase_24 (rfl : 24 + 3 = 27) (fun r5 Y4 => ?_)
      refine g_goto (pc' := 31) hX dX3_phase_27 (by decide) ?_
      refine g_drop (lv' := [some (.ref (q 0)), none, some (.int (iz a1))]) 1 rfl ?_
      refine g_drop (lv' := [some (.ref (q 0)), none, none]) 2 rfl ?_
      exact wX3_phase_31 hX r5 Y4
set_option maxRecDepth 100000 in
theorem wX3_distance_23 {X : Cx} {D : va_G} {y : ClassId × ClassId × ClassId} {q : Nat → Nat} (hX : OKX X cX3_distance RX3 (rmk 2) (some .int) D y) (s0 : Int) (Y : St × St × St × St × St) : GF X cX3_distance D (0, 0) (QI X D y (wJ y q)) (fX3_distance_j23 s0 Y) 23 [some (.ref (q 0)), none] [.int (iz s0)] (wJ y q Y) := by
  unfold fX3_distance_j23
  exact g_iret hX dX3_distance_23
set_option maxRecDepth 100000 in
theorem kX3_distance (l : Launch) (D : va_G) (y : ClassId × ClassId × ClassId) (q : Nat → Nat) (Y : St × St × St × St × St) (a0 : Int) : CtI l D y yX3_distance cX3_distance 2 (some .int) (rmk 2) [.ref (q 0), .int (iz a0)] (wJ y q) Y (fX3_distance Y a0) := by
  refine ctI_of (own := RX3) rfl (by decide) (cat1 rfl) rfl (fun X hl hX => ?_)
  subst hl
  show GF X cX3_distance D (0, 0) (QI X D y (wJ y q)) (fX3_distance Y a0) 0 [some (.ref (q 0)), some (.int (iz a0))] [] (wJ y q Y)
  unfold fX3_distance
  refine g_aload_n hX dX3_distance_0 (rfl : 0 + 1 = 1) rfl ?_
  refine ge_J_X3_10_J hX dX3_distance_1 (rfl : 1 + 3 = 4) ?_
  refine g_iload_n hX dX3_distance_4 (rfl : 4 + 1 = 5) rfl ?_
  refine ci_JR hX (kX1_has _ _ _ (fun k => q (k + 5)) _ _) mw_X3_74 (by decide) rfl rfl (Nat.le_of_ble_eq_true rfl) dX3_distance_5 (rfl : 5 + 3 = 8) (fun r2 Y1 => ?_)
  refine g_if_eq (tgt := 22) hX dX3_distance_8 (by decide) (rfl : 8 + 3 = 11) ?_ ?_
  · refine g_iconst hX dX3_distance_22 (rfl : 22 + 1 = 23) ?_
    refine g_drop (lv' := [some (.ref (q 0)), none]) 1 rfl ?_
    exact wX3_distance_23 hX ((-1)) Y1
  · refine g_aload_n hX dX3_distance_11 (rfl : 11 + 1 = 12) rfl ?_
    refine ge_J_X3_10_J hX dX3_distance_12 (rfl : 12 + 3 = 15) ?_
    refine g_iload_n hX dX3_distance_15 (rfl : 15 + 1 = 16) rfl ?_
    refine ci_JR hX (kX1_distanceAt _ _ _ (fun k => q (k + 5)) _ _) mw_X3_147 (by decide) rfl rfl (Nat.le_of_ble_eq_true rfl) dX3_distance_16 (rfl : 16 + 3 = 19) (fun r4 Y3 => ?_)
    refine g_goto (pc' := 23) hX dX3_distance_19 (by decide) ?_
    refine g_drop (lv' := [some (.ref (q 0)), none]) 1 rfl ?_
    exact wX3_distance_23 hX r4 Y3
set_option maxRecDepth 100000 in
theorem wX3_curve_51 {X : Cx} {D : va_G} {y : ClassId × ClassId × ClassId} {q : Nat → Nat} (hX : OKX X cX3_curve RX3 (rmk 2) (some .int) D y) (v2 : Int) (Y : St × St × St × St × St) : GF X cX3_curve D (0, 0) (QI X D y (wJ y q)) (fX3_curve_j51 v2 Y) 51 [some (.ref (q 0)), none, some (.int (iz v2)), none, none] [] (wJ y q Y) := by
  unfold fX3_curve_j51
  refine g_iload_n hX dX3_curve_51 (rfl : 51 + 1 = 52) rfl ?_
  exact g_iret hX dX3_curve_52
set_option maxRecDepth 100000 in
theorem wX3_curve_45 {X : Cx} {D : va_G} {y : ClassId × ClassId × ClassId} {q : Nat → Nat} (hX : OKX X cX3_curve RX3 (rmk 2) (some .int) D y) {k_10 : Int → Int → Int → (St × St × St × St × St) → Option (Int × (St × St × St × St × St))} (hk_10 : ∀ (v1 v2 v3 : Int) (Y : St × St × St × St × St), GF X cX3_curve D (0, 0) (QI X D y (wJ y q)) (k_10 v1 v2 v3 Y) 10 [some (.ref (q 0)), some (.int (iz v1)), some (.int (iz v2)), some (.int (iz v3)), none] [] (wJ y q Y)) (v1 v2 v3 : Int) (Y : St × St × St × St × St) : GF X cX3_curve D (0, 0) (QI X D y (wJ y q)) (fX3_curve_j45 k_10 v1 v2 v3 Y) 45 [some (.ref (q 0)), some (.int (iz v1)), some (.int (iz v2)), some (.int (iz v3)), none] [] (wJ y q Y) := by
  unfold fX3_curve_j45
  refine g_iinc (lv' := fun x101 => [some (.ref (q 0)), some (.int (iz v1)), some (.int (iz v2)), some (.int (iz x101)), none]) hX dX3_curve_45 (rfl : 45 + 3 = 48) rfl (fun _ => rfl) (fun x101 => ?_)
  refine g_goto (pc' := 10) hX dX3_curve_48 (by decide) ?_
  exact hk_10 v1 v2 x101 Y
set_option maxRecDepth 100000 in
theorem wX3_curve_42 {X : Cx} {D : va_G} {y : ClassId × ClassId × ClassId} {q : Nat → Nat} (hX : OKX X cX3_curve RX3 (rmk 2) (some .int) D y) {k_10 : Int → Int → Int → (St × St × St × St × St) → Option (Int × (St × St × St × St × St))} (hk_10 : ∀ (v1 v2 v3 : Int) (Y : St × St × St × St × St), GF X cX3_curve D (0, 0) (QI X D y (wJ y q)) (k_10 v1 v2 v3 Y) 10 [some (.ref (q 0)), some (.int (iz v1)), some (.int (iz v2)), some (.int (iz v3)), none] [] (wJ y q Y)) (v1 v2 v3 : Int) (Y : St × St × St × St × St) : GF X cX3_curve D (0, 0) (QI X D y (wJ y q)) (fX3_curve_j42 k_10 v1 v2 v3 Y) 42 [some (.ref (q 0)), some (.int (iz v1)), some (.int (iz v2)), some (.int (iz v3)), none] [] (wJ y q Y) := by
  unfold fX3_curve_j42
  refine g_iinc (lv' := fun x102 => [some (.ref (q 0)), some (.int (iz v1)), some (.int (iz x102)), some (.int (iz v3)), none]) hX dX3_curve_42 (rfl : 42 + 3 = 45) rfl (fun _ => rfl) (fun x102 => ?_)
  exact wX3_curve_45 hX hk_10 v1 x102 v3 Y
set_option maxRecDepth 100000 in
theorem wX3_curve_10 {X : Cx} {D : va_G} {y : ClassId × ClassId × ClassId} {q : Nat → Nat} (hX : OKX X cX3_curve RX3 (rmk 2) (some .int) D y) : ∀ (n : Nat) (v1 v2 v3 : Int) (Y : St × St × St × St × St), GF X cX3_curve D (0, 0) (QI X D y (wJ y q)) (fX3_curve_l10 n v1 v2 v3 Y) 10 [some (.ref (q 0)), some (.int (iz v1)), some (.int (iz v2)), some (.int (iz v3)), none] [] (wJ y q Y) := by
  intro n
  induction n with
  | zero => intro v1 v2 v3 Y; exact g_none
  | succ n hk_10 =>
    intro v1 v2 v3 Y
    unfold fX3_curve_l10
    refine g_iload_n hX dX3_curve_10 (rfl : 10 + 1 = 11) rfl ?_
    refine g_aload_n hX dX3_curve_11 (rfl : 11 + 1 = 12) rfl ?_
    refine ge_J_X3_10_J hX dX3_curve_12 (rfl : 12 + 3 = 15) ?_
    refine ge_J_X3_66_R hX dX3_curve_15 (rfl : 15 + 3 = 18) ?_
    refine g_icmp_ge (tgt := 51) hX dX3_curve_18 (by decide) (rfl : 18 + 3 = 21) ?_ ?_
    · refine g_drop (lv' := [some (.ref (q 0)), none, some (.int (iz v2)), some (.int (iz v3)), none]) 1 rfl ?_
      refine g_drop (lv' := [some (.ref (q 0)), none, some (.int (iz v2)), none, none]) 3 rfl ?_
      exact wX3_curve_51 hX v2 Y
    · refine g_aload_n hX dX3_curve_21 (rfl : 21 + 1 = 22) rfl ?_
      refine ge_J_X3_10_J hX dX3_curve_22 (rfl : 22 + 3 = 25) ?_
      refine g_iload_n hX dX3_curve_25 (rfl : 25 + 1 = 26) rfl ?_
      refine ci_JR hX (kX1_distanceAt _ _ _ (fun k => q (k + 5)) _ _) mw_X3_147 (by decide) rfl rfl (Nat.le_of_ble_eq_true rfl) dX3_curve_26 (rfl : 26 + 3 = 29) (fun r104 Y103 => ?_)
      refine g_istore (lv' := fun x105 => [some (.ref (q 0)), some (.int (iz v1)), some (.int (iz v2)), some (.int (iz v3)), some (.int (iz x105))]) hX dX3_curve_29 (rfl : 29 + 2 = 31) rfl (fun _ => rfl) (fun x105 => ?_)
      refine g_iload hX dX3_curve_31 (rfl : 31 + 2 = 33) rfl ?_
      refine g_if_eq (tgt := 42) hX dX3_curve_33 (by decide) (rfl : 33 + 3 = 36) ?_ ?_
      · refine g_drop (lv' := [some (.ref (q 0)), some (.int (iz v1)), some (.int (iz v2)), some (.int (iz v3)), none]) 4 rfl ?_
        exact wX3_curve_42 hX hk_10 v1 v2 v3 Y103
      · refine g_iload hX dX3_curve_36 (rfl : 36 + 2 = 38) rfl ?_
        refine g_iload_n hX dX3_curve_38 (rfl : 38 + 1 = 39) rfl ?_
        refine g_icmp_le (tgt := 45) hX dX3_curve_39 (by decide) (rfl : 39 + 3 = 42) ?_ ?_
        · refine g_drop (lv' := [some (.ref (q 0)), some (.int (iz v1)), some (.int (iz v2)), some (.int (iz v3)), none]) 4 rfl ?_
          exact wX3_curve_45 hX hk_10 v1 v2 v3 Y103
        · refine g_drop (lv' := [some (.ref (q 0)), some (.int (iz v1)), some (.int (iz v2)), some (.int (iz v3)), none]) 4 rfl ?_
          exact wX3_curve_42 hX hk_10 v1 v2 v3 Y103
set_option maxRecDepth 100000 in
theorem kX3_curve (l : Launch) (D : va_G) (y : ClassId × ClassId × ClassId) (q : Nat → Nat) (Y : St × St × St × St × St) (a0 : Int) : CtI l D y yX3_curve cX3_curve 5 (some .int) (rmk 2) [.ref (q 0), .int (iz a0)] (wJ y q) Y (fX3_curve Y a0) := by
  refine ctI_of (own := RX3) rfl (by decide) (cat1 rfl) rfl (fun X hl hX => ?_)
  subst hl
  show GF X cX3_curve D (0, 0) (QI X D y (wJ y q)) (fX3_curve Y a0) 0 [some (.ref (q 0)), some (.int (iz a0)), none, none, none] [] (wJ y q Y)
  unfold fX3_curve
  refine g_iload_n hX dX3_curve_0 (rfl : 0 + 1 = 1) rfl ?_
  refine g_if_ge (tgt := 6) hX dX3_curve_1 (by decide) (rfl : 1 + 3 = 4) ?_ ?_
  · refine g_iconst hX dX3_curve_6 (rfl : 6 + 1 = 7) ?_
    refine g_istore_n (lv' := fun x1 => [some (.ref (q 0)), some (.int (iz a0)), some (.int (iz x1)), none, none]) hX dX3_curve_7 (rfl : 7 + 1 = 8) rfl (fun _ => rfl) (fun x1 => ?_)
    refine g_iconst hX dX3_curve_8 (rfl : 8 + 1 = 9) ?_
    refine g_istore_n (lv' := fun x2 => [some (.ref (q 0)), some (.int (iz a0)), some (.int (iz x1)), some (.int (iz x2)), none]) hX dX3_curve_9 (rfl : 9 + 1 = 10) rfl (fun _ => rfl) (fun x2 => ?_)
    exact wX3_curve_10 hX FU a0 x1 x2 Y
  · refine g_iconst hX dX3_curve_4 (rfl : 4 + 1 = 5) ?_
    exact g_iret hX dX3_curve_5
set_option maxRecDepth 100000 in
theorem wX3_hard_90 {X : Cx} {D : va_G} {y : ClassId × ClassId × ClassId} {q : Nat → Nat} (hX : OKX X cX3_hard RX3 (rmk 5) (some .int) D y) (v3 : Int) (Y : St × St × St × St × St) : GF X cX3_hard D (0, 0) (QI X D y (wJ y q)) (fX3_hard_j90 v3 Y) 90 [some (.ref (q 0)), none, none, some (.int (iz v3)), none] [] (wJ y q Y) := by
  unfold fX3_hard_j90
  refine g_aload_n hX dX3_hard_90 (rfl : 90 + 1 = 91) rfl ?_
  refine cv_JJ hX (kX3_forget _ _ _ (q) _) mw_X3_63 (by decide) rfl rfl (Nat.le_of_ble_eq_true rfl) dX3_hard_91 (rfl : 91 + 3 = 94) (fun Y101 => ?_)
  refine g_iload_n hX dX3_hard_94 (rfl : 94 + 1 = 95) rfl ?_
  exact g_iret hX dX3_hard_95
set_option maxRecDepth 100000 in
theorem wX3_hard_56 {X : Cx} {D : va_G} {y : ClassId × ClassId × ClassId} {q : Nat → Nat} (hX : OKX X cX3_hard RX3 (rmk 5) (some .int) D y) : ∀ (n : Nat) (v3 v4 : Int) (Y : St × St × St × St × St), GF X cX3_hard D (0, 0) (QI X D y (wJ y q)) (fX3_hard_l56 n v3 v4 Y) 56 [some (.ref (q 0)), none, none, some (.int (iz v3)), some (.int (iz v4))] [] (wJ y q Y) := by
  intro n
  induction n with
  | zero => intro v3 v4 Y; exact g_none
  | succ n hk_56 =>
    intro v3 v4 Y
    unfold fX3_hard_l56
    refine g_iload hX dX3_hard_56 (rfl : 56 + 2 = 58) rfl ?_
    refine g_iload_n hX dX3_hard_58 (rfl : 58 + 1 = 59) rfl ?_
    refine g_icmp_ge (tgt := 90) hX dX3_hard_59 (by decide) (rfl : 59 + 3 = 62) ?_ ?_
    · refine g_drop (lv' := [some (.ref (q 0)), none, none, some (.int (iz v3)), none]) 4 rfl ?_
      exact wX3_hard_90 hX v3 Y
    · refine g_aload_n hX dX3_hard_62 (rfl : 62 + 1 = 63) rfl ?_
      refine ge_J_X3_10_J hX dX3_hard_63 (rfl : 63 + 3 = 66) ?_
      refine g_aload_n hX dX3_hard_66 (rfl : 66 + 1 = 67) rfl ?_
      refine ge_J_X3_25_J hX dX3_hard_67 (rfl : 67 + 3 = 70) ?_
      refine ci_JV hX (kX2_leastAbsent _ _ _ (fun k => q (k + 19)) (fun k => q (k + 5)) _) mw_X3_150 (by decide) rfl rfl (Nat.le_of_ble_eq_true rfl) dX3_hard_70 (rfl : 70 + 3 = 73) (fun r103 Y102 => ?_)
      refine cv_JR hX (kX1_append _ _ _ (fun k => q (k + 5)) _ _) mw_X3_69 (by decide) rfl rfl (Nat.le_of_ble_eq_true rfl) dX3_hard_73 (rfl : 73 + 3 = 76) (fun Y104 => ?_)
      refine g_aload_n hX dX3_hard_76 (rfl : 76 + 1 = 77) rfl ?_
      refine ge_J_X3_25_J hX dX3_hard_77 (rfl : 77 + 3 = 80) ?_
      refine ci_JV hX (kX2_step _ _ _ (fun k => q (k + 19)) (fun k => q (k + 5)) _) mw_X3_103 (by decide) rfl rfl (Nat.le_of_ble_eq_true rfl) dX3_hard_80 (rfl : 80 + 3 = 83) (fun r106 Y105 => ?_)
      refine g_pop hX dX3_hard_83 rfl (rfl : 83 + 1 = 84) ?_
      refine g_iinc (lv' := fun x107 => [some (.ref (q 0)), none, none, some (.int (iz v3)), some (.int (iz x107))]) hX dX3_hard_84 (rfl : 84 + 3 = 87) rfl (fun _ => rfl) (fun x107 => ?_)
      refine g_goto (pc' := 56) hX dX3_hard_87 (by decide) ?_
      exact hk_56 v3 x107 Y105
set_option maxRecDepth 100000 in
theorem wX3_hard_25 {X : Cx} {D : va_G} {y : ClassId × ClassId × ClassId} {q : Nat → Nat} (hX : OKX X cX3_hard RX3 (rmk 5) (some .int) D y) (Y : St × St × St × St × St) : GF X cX3_hard D (0, 0) (QI X D y (wJ y q)) (fX3_hard_j25  Y) 25 [some (.ref (q 0)), none, none, none, none] [] (wJ y q Y) := by
  unfold fX3_hard_j25
  refine g_iconst hX dX3_hard_25 (rfl : 25 + 1 = 26) ?_
  exact g_iret hX dX3_hard_26
set_option maxRecDepth 100000 in
theorem kX3_hard (l : Launch) (D : va_G) (y : ClassId × ClassId × ClassId) (q : Nat → Nat) (Y : St × St × St × St × St) (a0 a1 a2 : Int) : CtI l D y yX3_hard cX3_hard 5 (some .int) (rmk 5) [.ref (q 0), .int (iz a0), .int (iz a1), .int (iz a2)] (wJ y q) Y (fX3_hard Y a0 a1 a2) := by
  refine ctI_of (own := RX3) rfl (by decide) (cat1 rfl) rfl (fun X hl hX => ?_)
  subst hl
  show GF X cX3_hard D (0, 0) (QI X D y (wJ y q)) (fX3_hard Y a0 a1 a2) 0 [some (.ref (q 0)), some (.int (iz a0)), some (.int (iz a1)), some (.int (iz a2)), none] [] (wJ y q Y)
  unfold fX3_hard
  refine g_iload_n hX dX3_hard_0 (rfl : 0 + 1 = 1) rfl ?_
  refine g_callp hX (kX3_isWay _ _ _ _) mw_X3_87 (by decide) rfl rfl (Nat.le_of_ble_eq_true rfl) dX3_hard_1 (rfl : 1 + 3 = 4) (fun r1 => ?_)
  refine g_if_eq (tgt := 25) hX dX3_hard_4 (by decide) (rfl : 4 + 3 = 7) ?_ ?_
  · refine g_drop (lv' := [some (.ref (q 0)), none, some (.int (iz a1)), some (.int (iz a2)), none]) 1 rfl ?_
    refine g_drop (lv' := [some (.ref (q 0)), none, none, some (.int (iz a2)), none]) 2 rfl ?_
    refine g_drop (lv' := [some (.ref (q 0)), none, none, none, none]) 3 rfl ?_
    exact wX3_hard_25 hX  Y
  · refine g_iload_n hX dX3_hard_7 (rfl : 7 + 1 = 8) rfl ?_
    refine g_callp hX (kX3_isPlaces _ _ _ _) mw_X3_90 (by decide) rfl rfl (Nat.le_of_ble_eq_true rfl) dX3_hard_8 (rfl : 8 + 3 = 11) (fun r2 => ?_)
    refine g_if_eq (tgt := 25) hX dX3_hard_11 (by decide) (rfl : 11 + 3 = 14) ?_ ?_
    · refine g_drop (lv' := [some (.ref (q 0)), none, some (.int (iz a1)), some (.int (iz a2)), none]) 1 rfl ?_
      refine g_drop (lv' := [some (.ref (q 0)), none, none, some (.int (iz a2)), none]) 2 rfl ?_
      refine g_drop (lv' := [some (.ref (q 0)), none, none, none, none]) 3 rfl ?_
      exact wX3_hard_25 hX  Y
    · refine g_iload_n hX dX3_hard_14 (rfl : 14 + 1 = 15) rfl ?_
      refine g_if_lt (tgt := 25) hX dX3_hard_15 (by decide) (rfl : 15 + 3 = 18) ?_ ?_
      · refine g_drop (lv' := [some (.ref (q 0)), none, some (.int (iz a1)), some (.int (iz a2)), none]) 1 rfl ?_
        refine g_drop (lv' := [some (.ref (q 0)), none, none, some (.int (iz a2)), none]) 2 rfl ?_
        refine g_drop (lv' := [some (.ref (q 0)), none, none, none, none]) 3 rfl ?_
        exact wX3_hard_25 hX  Y
      · refine g_iload_n hX dX3_hard_18 (rfl : 18 + 1 = 19) rfl ?_
        refine g_sipush hX dX3_hard_19 (by decide) (rfl : 19 + 3 = 22) ?_
        refine g_icmp_le (tgt := 27) hX dX3_hard_22 (by decide) (rfl : 22 + 3 = 25) ?_ ?_
        · refine g_iload_n hX dX3_hard_27 (rfl : 27 + 1 = 28) rfl ?_
          refine g_bipush hX dX3_hard_28 (by decide) (rfl : 28 + 2 = 30) ?_
          refine g_icmp_ne (tgt := 36) hX dX3_hard_30 (by decide) (rfl : 30 + 3 = 33) ?_ ?_
          · refine g_aload_n hX dX3_hard_36 (rfl : 36 + 1 = 37) rfl ?_
            refine ge_J_X3_10_J hX dX3_hard_37 (rfl : 37 + 3 = 40) ?_
            refine g_iconst hX dX3_hard_40 (rfl : 40 + 1 = 41) ?_
            refine pu_J_X3_66_R hX dX3_hard_41 (rfl : 41 + 3 = 44) (fun Y3 => ?_)
            refine g_aload_n hX dX3_hard_44 (rfl : 44 + 1 = 45) rfl ?_
            refine ge_J_X3_25_J hX dX3_hard_45 (rfl : 45 + 3 = 48) ?_
            refine g_iload_n hX dX3_hard_48 (rfl : 48 + 1 = 49) rfl ?_
            refine g_iload_n hX dX3_hard_49 (rfl : 49 + 1 = 50) rfl ?_
            refine cv_JV hX (kX2_begin _ _ _ (fun k => q (k + 19)) (fun k => q (k + 5)) _ _ _) mw_X3_93 (by decide) rfl rfl (Nat.le_of_ble_eq_true rfl) dX3_hard_50 (rfl : 50 + 3 = 53) (fun Y4 => ?_)
            refine g_iconst hX dX3_hard_53 (rfl : 53 + 1 = 54) ?_
            refine g_istore (lv' := fun x5 => [some (.ref (q 0)), some (.int (iz a0)), some (.int (iz a1)), some (.int (iz a2)), some (.int (iz x5))]) hX dX3_hard_54 (rfl : 54 + 2 = 56) rfl (fun _ => rfl) (fun x5 => ?_)
            refine g_drop (lv' := [some (.ref (q 0)), none, some (.int (iz a1)), some (.int (iz a2)), some (.int (iz x5))]) 1 rfl ?_
            refine g_drop (lv' := [some (.ref (q 0)), none, none, some (.int (iz a2)), some (.int (iz x5))]) 2 rfl ?_
            exact wX3_hard_56 hX FU a2 x5 Y4
          · refine g_bipush hX dX3_hard_33 (by decide) (rfl : 33 + 2 = 35) ?_
            exact g_iret hX dX3_hard_35
        · refine g_drop (lv' := [some (.ref (q 0)), none, some (.int (iz a1)), some (.int (iz a2)), none]) 1 rfl ?_
          refine g_drop (lv' := [some (.ref (q 0)), none, none, some (.int (iz a2)), none]) 2 rfl ?_
          refine g_drop (lv' := [some (.ref (q 0)), none, none, none, none]) 3 rfl ?_
          exact wX3_hard_25 hX  Y
set_option maxRecDepth 100000 in
theorem wX3_claim_14 {X : Cx} {D : va_G} {y : ClassId × ClassId × ClassId} {q : Nat → Nat} (hX : OKX X cX3_claim RX3 (rmk 1) (some .int) D y) (v1 : Int) (Y : St × St × St × St × St) : GF X cX3_claim D (0, 0) (QI X D y (wJ y q)) (fX3_claim_j14 v1 Y) 14 [some (.ref (q 0)), some (.int (iz v1))] [] (wJ y q Y) := by
  unfold fX3_claim_j14
  refine g_aload_n hX dX3_claim_14 (rfl : 14 + 1 = 15) rfl ?_
  refine ge_J_X3_48_J hX dX3_claim_15 (rfl : 15 + 3 = 18) ?_
  refine g_sipush hX dX3_claim_18 (by decide) (rfl : 18 + 3 = 21) ?_
  refine g_icmp_lt (tgt := 27) hX dX3_claim_21 (by decide) (rfl : 21 + 3 = 24) ?_ ?_
  · refine g_aload_n hX dX3_claim_27 (rfl : 27 + 1 = 28) rfl ?_
    refine ge_J_X3_39_J hX dX3_claim_28 (rfl : 28 + 3 = 31) ?_
    refine g_aload_n hX dX3_claim_31 (rfl : 31 + 1 = 32) rfl ?_
    refine ge_J_X3_48_J hX dX3_claim_32 (rfl : 32 + 3 = 35) ?_
    refine g_iload_n hX dX3_claim_35 (rfl : 35 + 1 = 36) rfl ?_
    refine as_J_J_5 hX dX3_claim_36 (rfl : 36 + 1 = 37) (fun Y101 => ?_)
    refine g_aload_n hX dX3_claim_37 (rfl : 37 + 1 = 38) rfl ?_
    refine g_dup hX dX3_claim_38 rfl (rfl : 38 + 1 = 39) ?_
    refine ge_J_X3_48_J hX dX3_claim_39 (rfl : 39 + 3 = 42) ?_
    refine g_iconst hX dX3_claim_42 (rfl : 42 + 1 = 43) ?_
    refine g_iadd hX dX3_claim_43 (rfl : 43 + 1 = 44) ?_
    refine pu_J_X3_48_J hX dX3_claim_44 (rfl : 44 + 3 = 47) (fun Y102 => ?_)
    refine g_aload_n hX dX3_claim_47 (rfl : 47 + 1 = 48) rfl ?_
    refine ge_J_X3_48_J hX dX3_claim_48 (rfl : 48 + 3 = 51) ?_
    exact g_iret hX dX3_claim_51
  · refine g_bipush hX dX3_claim_24 (by decide) (rfl : 24 + 2 = 26) ?_
    exact g_iret hX dX3_claim_26
set_option maxRecDepth 100000 in
theorem kX3_claim (l : Launch) (D : va_G) (y : ClassId × ClassId × ClassId) (q : Nat → Nat) (Y : St × St × St × St × St) (a0 : Int) : CtI l D y yX3_claim cX3_claim 2 (some .int) (rmk 1) [.ref (q 0), .int (iz a0)] (wJ y q) Y (fX3_claim Y a0) := by
  refine ctI_of (own := RX3) rfl (by decide) (cat1 rfl) rfl (fun X hl hX => ?_)
  subst hl
  show GF X cX3_claim D (0, 0) (QI X D y (wJ y q)) (fX3_claim Y a0) 0 [some (.ref (q 0)), some (.int (iz a0))] [] (wJ y q Y)
  unfold fX3_claim
  refine g_iload_n hX dX3_claim_0 (rfl : 0 + 1 = 1) rfl ?_
  refine g_iconst hX dX3_claim_1 (rfl : 1 + 1 = 2) ?_
  refine g_icmp_eq (tgt := 14) hX dX3_claim_2 (by decide) (rfl : 2 + 3 = 5) ?_ ?_
  · exact wX3_claim_14 hX a0 Y
  · refine g_iload_n hX dX3_claim_5 (rfl : 5 + 1 = 6) rfl ?_
    refine g_callp hX (kX3_isThing _ _ _ _) mw_X3_56 (by decide) rfl rfl (Nat.le_of_ble_eq_true rfl) dX3_claim_6 (rfl : 6 + 3 = 9) (fun r1 => ?_)
    refine g_if_ne (tgt := 14) hX dX3_claim_9 (by decide) (rfl : 9 + 3 = 12) ?_ ?_
    · exact wX3_claim_14 hX a0 Y
    · refine g_iconst hX dX3_claim_12 (rfl : 12 + 1 = 13) ?_
      exact g_iret hX dX3_claim_13
set_option maxRecDepth 100000 in
theorem kX3_copy (l : Launch) (D : va_G) (y : ClassId × ClassId × ClassId) (q : Nat → Nat) (Y : St × St × St × St × St) : CtI l D y yX3_copy cX3_copy 1 (some .int) (rmk 1) [.ref (q 0)] (wJ y q) Y (fX3_copy Y) := by
  refine ctI_of (own := RX3) rfl (by decide) (cat1 rfl) rfl (fun X hl hX => ?_)
  subst hl
  show GF X cX3_copy D (0, 0) (QI X D y (wJ y q)) (fX3_copy Y) 0 [some (.ref (q 0))] [] (wJ y q Y)
  unfold fX3_copy
  refine g_aload_n hX dX3_copy_0 (rfl : 0 + 1 = 1) rfl ?_
  refine ge_J_X3_52_J hX dX3_copy_1 (rfl : 1 + 3 = 4) ?_
  refine g_if_ne (tgt := 10) hX dX3_copy_4 (by decide) (rfl : 4 + 3 = 7) ?_ ?_
  · refine g_aload_n hX dX3_copy_10 (rfl : 10 + 1 = 11) rfl ?_
    refine ge_J_X3_45_J hX dX3_copy_11 (rfl : 11 + 3 = 14) ?_
    refine g_iconst hX dX3_copy_14 (rfl : 14 + 1 = 15) ?_
    refine g_aload_n hX dX3_copy_15 (rfl : 15 + 1 = 16) rfl ?_
    refine ge_J_X3_39_J hX dX3_copy_16 (rfl : 16 + 3 = 19) ?_
    refine g_iconst hX dX3_copy_19 (rfl : 19 + 1 = 20) ?_
    refine g_aload_n hX dX3_copy_20 (rfl : 20 + 1 = 21) rfl ?_
    refine ge_J_X3_10_J hX dX3_copy_21 (rfl : 21 + 3 = 24) ?_
    refine ge_J_X3_66_R hX dX3_copy_24 (rfl : 24 + 3 = 27) ?_
    refine cp_J hX mw_copy (by decide) (Nat.le_of_ble_eq_true rfl) dX3_copy_27 (rfl : 27 + 3 = 30) (fun Y1 => ?_)
    refine g_aload_n hX dX3_copy_30 (rfl : 30 + 1 = 31) rfl ?_
    refine g_aload_n hX dX3_copy_31 (rfl : 31 + 1 = 32) rfl ?_
    refine ge_J_X3_10_J hX dX3_copy_32 (rfl : 32 + 3 = 35) ?_
    refine ge_J_X3_66_R hX dX3_copy_35 (rfl : 35 + 3 = 38) ?_
    refine pu_J_X3_48_J hX dX3_copy_38 (rfl : 38 + 3 = 41) (fun Y2 => ?_)
    refine g_aload_n hX dX3_copy_41 (rfl : 41 + 1 = 42) rfl ?_
    refine ge_J_X3_48_J hX dX3_copy_42 (rfl : 42 + 3 = 45) ?_
    exact g_iret hX dX3_copy_45
  · refine g_bipush hX dX3_copy_7 (by decide) (rfl : 7 + 2 = 9) ?_
    exact g_iret hX dX3_copy_9
set_option maxRecDepth 100000 in
theorem kX3_unclaim (l : Launch) (D : va_G) (y : ClassId × ClassId × ClassId) (q : Nat → Nat) (Y : St × St × St × St × St) : CtI l D y yX3_unclaim cX3_unclaim 2 (some .int) (rmk 0) [.ref (q 0)] (wJ y q) Y (fX3_unclaim Y) := by
  refine ctI_of (own := RX3) rfl (by decide) (cat1 rfl) rfl (fun X hl hX => ?_)
  subst hl
  show GF X cX3_unclaim D (0, 0) (QI X D y (wJ y q)) (fX3_unclaim Y) 0 [some (.ref (q 0)), none] [] (wJ y q Y)
  unfold fX3_unclaim
  refine g_aload_n hX dX3_unclaim_0 (rfl : 0 + 1 = 1) rfl ?_
  refine ge_J_X3_48_J hX dX3_unclaim_1 (rfl : 1 + 3 = 4) ?_
  refine g_istore_n (lv' := fun x1 => [some (.ref (q 0)), some (.int (iz x1))]) hX dX3_unclaim_4 (rfl : 4 + 1 = 5) rfl (fun _ => rfl) (fun x1 => ?_)
  refine g_aload_n hX dX3_unclaim_5 (rfl : 5 + 1 = 6) rfl ?_
  refine g_iconst hX dX3_unclaim_6 (rfl : 6 + 1 = 7) ?_
  refine pu_J_X3_48_J hX dX3_unclaim_7 (rfl : 7 + 3 = 10) (fun Y2 => ?_)
  refine g_iload_n hX dX3_unclaim_10 (rfl : 10 + 1 = 11) rfl ?_
  exact g_iret hX dX3_unclaim_11
set_option maxRecDepth 100000 in
theorem wX3_canGo_57 {X : Cx} {D : va_G} {y : ClassId × ClassId × ClassId} (hX : OKX X cX3_canGo RX3 (rmk 1) (some .boolean) D y) (s0 : Int) : GF X cX3_canGo D (0, 0) (QP X) (fX3_canGo_j57 s0) 57 [none, none, none, none, none] [.int (iz s0)] [] := by
  unfold fX3_canGo_j57
  exact g_zretP hX dX3_canGo_57
set_option maxRecDepth 100000 in
theorem wX3_canGo_56 {X : Cx} {D : va_G} {y : ClassId × ClassId × ClassId} (hX : OKX X cX3_canGo RX3 (rmk 1) (some .boolean) D y) : GF X cX3_canGo D (0, 0) (QP X) (fX3_canGo_j56 ) 56 [none, none, none, none, none] [] [] := by
  unfold fX3_canGo_j56
  refine g_iconst hX dX3_canGo_56 (rfl : 56 + 1 = 57) ?_
  exact wX3_canGo_57 hX 0
set_option maxRecDepth 100000 in
theorem wX3_canGo_36 {X : Cx} {D : va_G} {y : ClassId × ClassId × ClassId} (hX : OKX X cX3_canGo RX3 (rmk 1) (some .boolean) D y) (s0 : Int) : GF X cX3_canGo D (0, 0) (QP X) (fX3_canGo_j36 s0) 36 [none, none, none, none, none] [.int (iz s0)] [] := by
  unfold fX3_canGo_j36
  exact g_zretP hX dX3_canGo_36
set_option maxRecDepth 100000 in
theorem wX3_canGo_19 {X : Cx} {D : va_G} {y : ClassId × ClassId × ClassId} (hX : OKX X cX3_canGo RX3 (rmk 1) (some .boolean) D y) (v0 v1 s0 : Int) : GF X cX3_canGo D (0, 0) (QP X) (fX3_canGo_j19 v0 v1 s0) 19 [some (.int (iz v0)), some (.int (iz v1)), none, none, none] [.int (iz s0)] [] := by
  unfold fX3_canGo_j19
  refine g_istore (lv' := fun x101 => [some (.int (iz v0)), some (.int (iz v1)), none, none, some (.int (iz x101))]) hX dX3_canGo_19 (rfl : 19 + 2 = 21) rfl (fun _ => rfl) (fun x101 => ?_)
  refine g_iload hX dX3_canGo_21 (rfl : 21 + 2 = 23) rfl ?_
  refine g_if_ne (tgt := 37) hX dX3_canGo_23 (by decide) (rfl : 23 + 3 = 26) ?_ ?_
  · refine g_iload_n hX dX3_canGo_37 (rfl : 37 + 1 = 38) rfl ?_
    refine g_callp hX (kX3_isThing _ _ _ _) mw_X3_56 (by decide) rfl rfl (Nat.le_of_ble_eq_true rfl) dX3_canGo_38 (rfl : 38 + 3 = 41) (fun r102 => ?_)
    refine g_if_eq (tgt := 56) hX dX3_canGo_41 (by decide) (rfl : 41 + 3 = 44) ?_ ?_
    · refine g_drop (lv' := [none, some (.int (iz v1)), none, none, some (.int (iz x101))]) 0 rfl ?_
      refine g_drop (lv' := [none, none, none, none, some (.int (iz x101))]) 1 rfl ?_
      refine g_drop (lv' := [none, none, none, none, none]) 4 rfl ?_
      exact wX3_canGo_56 hX 
    · refine g_iload_n hX dX3_canGo_44 (rfl : 44 + 1 = 45) rfl ?_
      refine g_iconst hX dX3_canGo_45 (rfl : 45 + 1 = 46) ?_
      refine g_iload_n hX dX3_canGo_46 (rfl : 46 + 1 = 47) rfl ?_
      refine g_ishl hX dX3_canGo_47 (rfl : 47 + 1 = 48) ?_
      refine g_iand hX dX3_canGo_48 (rfl : 48 + 1 = 49) ?_
      refine g_if_eq (tgt := 56) hX dX3_canGo_49 (by decide) (rfl : 49 + 3 = 52) ?_ ?_
      · refine g_drop (lv' := [none, some (.int (iz v1)), none, none, some (.int (iz x101))]) 0 rfl ?_
        refine g_drop (lv' := [none, none, none, none, some (.int (iz x101))]) 1 rfl ?_
        refine g_drop (lv' := [none, none, none, none, none]) 4 rfl ?_
        exact wX3_canGo_56 hX 
      · refine g_iconst hX dX3_canGo_52 (rfl : 52 + 1 = 53) ?_
        refine g_goto (pc' := 57) hX dX3_canGo_53 (by decide) ?_
        refine g_drop (lv' := [none, some (.int (iz v1)), none, none, some (.int (iz x101))]) 0 rfl ?_
        refine g_drop (lv' := [none, none, none, none, some (.int (iz x101))]) 1 rfl ?_
        refine g_drop (lv' := [none, none, none, none, none]) 4 rfl ?_
        exact wX3_canGo_57 hX 1
  · refine g_iload_n hX dX3_canGo_26 (rfl : 26 + 1 = 27) rfl ?_
    refine g_iconst hX dX3_canGo_27 (rfl : 27 + 1 = 28) ?_
    refine g_icmp_ne (tgt := 35) hX dX3_canGo_28 (by decide) (rfl : 28 + 3 = 31) ?_ ?_
    · refine g_iconst hX dX3_canGo_35 (rfl : 35 + 1 = 36) ?_
      refine g_drop (lv' := [none, some (.int (iz v1)), none, none, some (.int (iz x101))]) 0 rfl ?_
      refine g_drop (lv' := [none, none, none, none, some (.int (iz x101))]) 1 rfl ?_
      refine g_drop (lv' := [none, none, none, none, none]) 4 rfl ?_
      exact wX3_canGo_36 hX 0
    · refine g_iconst hX dX3_canGo_31 (rfl : 31 + 1 = 32) ?_
      refine g_goto (pc' := 36) hX dX3_canGo_32 (by decide) ?_
      refine g_drop (lv' := [none, some (.int (iz v1)), none, none, some (.int (iz x101))]) 0 rfl ?_
      refine g_drop (lv' := [none, none, none, none, some (.int (iz x101))]) 1 rfl ?_
      refine g_drop (lv' := [none, none, none, none, none]) 4 rfl ?_
      exact wX3_canGo_36 hX 1
set_option maxRecDepth 100000 in
theorem wX3_canGo_18 {X : Cx} {D : va_G} {y : ClassId × ClassId × ClassId} (hX : OKX X cX3_canGo RX3 (rmk 1) (some .boolean) D y) (v0 v1 : Int) : GF X cX3_canGo D (0, 0) (QP X) (fX3_canGo_j18 v0 v1) 18 [some (.int (iz v0)), some (.int (iz v1)), none, none, none] [] [] := by
  unfold fX3_canGo_j18
  refine g_iconst hX dX3_canGo_18 (rfl : 18 + 1 = 19) ?_
  exact wX3_canGo_19 hX v0 v1 0
set_option maxRecDepth 100000 in
theorem kX3_canGo (l : Launch) (D : va_G) (y : ClassId × ClassId × ClassId) (a0 a1 a2 a3 : Int) : CtP l D y yX3_canGo cX3_canGo 5 (some .boolean) (rmk 1) [.int (iz a0), .int (iz a1), .int (iz a2), .int (iz a3)] (fX3_canGo a0 a1 a2 a3) := by
  refine ctP_of (own := RX3) rfl (by decide) (cat1 rfl) rfl (fun X hl hX => ?_)
  subst hl
  show GF X cX3_canGo D (0, 0) (QP X) (fX3_canGo a0 a1 a2 a3) 0 [some (.int (iz a0)), some (.int (iz a1)), some (.int (iz a2)), some (.int (iz a3)), none] [] []
  unfold fX3_canGo
  refine g_iload_n hX dX3_canGo_0 (rfl : 0 + 1 = 1) rfl ?_
  refine g_iload_n hX dX3_canGo_1 (rfl : 1 + 1 = 2) rfl ?_
  refine g_iand hX dX3_canGo_2 (rfl : 2 + 1 = 3) ?_
  refine g_if_ne (tgt := 18) hX dX3_canGo_3 (by decide) (rfl : 3 + 3 = 6) ?_ ?_
  · refine g_drop (lv' := [some (.int (iz a0)), some (.int (iz a1)), none, some (.int (iz a3)), none]) 2 rfl ?_
    refine g_drop (lv' := [some (.int (iz a0)), some (.int (iz a1)), none, none, none]) 3 rfl ?_
    exact wX3_canGo_18 hX a0 a1
  · refine g_iload_n hX dX3_canGo_6 (rfl : 6 + 1 = 7) rfl ?_
    refine g_callp hX (kJ6_bitCount_0f7a4 _ _ _ _) mw_X3_166 (by decide) rfl rfl (Nat.le_of_ble_eq_true rfl) dX3_canGo_7 (rfl : 7 + 3 = 10) (fun r1 => ?_)
    refine g_iload_n hX dX3_canGo_10 (rfl : 10 + 1 = 11) rfl ?_
    refine g_icmp_lt (tgt := 18) hX dX3_canGo_11 (by decide) (rfl : 11 + 3 = 14) ?_ ?_
    · refine g_drop (lv' := [some (.int (iz a0)), some (.int (iz a1)), none, some (.int (iz a3)), none]) 2 rfl ?_
      refine g_drop (lv' := [some (.int (iz a0)), some (.int (iz a1)), none, none, none]) 3 rfl ?_
      exact wX3_canGo_18 hX a0 a1
    · refine g_iconst hX dX3_canGo_14 (rfl : 14 + 1 = 15) ?_
      refine g_goto (pc' := 19) hX dX3_canGo_15 (by decide) ?_
      refine g_drop (lv' := [some (.int (iz a0)), some (.int (iz a1)), none, some (.int (iz a3)), none]) 2 rfl ?_
      refine g_drop (lv' := [some (.int (iz a0)), some (.int (iz a1)), none, none, none]) 3 rfl ?_
      exact wX3_canGo_19 hX a0 a1 1
set_option maxRecDepth 100000 in
theorem wX3_cost_157 {X : Cx} {D : va_G} {y : ClassId × ClassId × ClassId} {q : Nat → Nat} (hX : OKX X cX3_cost RX3 (rmk 2) (some .int) D y) (s0 : Int) (Y : St × St × St × St × St) : GF X cX3_cost D (0, 0) (QI X D y (wJ y q)) (fX3_cost_j157 s0 Y) 157 [some (.ref (q 0)), none, none, none, none, none] [.int (iz s0)] (wJ y q Y) := by
  unfold fX3_cost_j157
  exact g_iret hX dX3_cost_157
set_option maxRecDepth 100000 in
theorem wX3_cost_129 {X : Cx} {D : va_G} {y : ClassId × ClassId × ClassId} {q : Nat → Nat} (hX : OKX X cX3_cost RX3 (rmk 2) (some .int) D y) (v3 : Int) (Y : St × St × St × St × St) : GF X cX3_cost D (0, 0) (QI X D y (wJ y q)) (fX3_cost_j129 v3 Y) 129 [some (.ref (q 0)), none, none, some (.int (iz v3)), none, none] [] (wJ y q Y) := by
  unfold fX3_cost_j129
  refine g_aload_n hX dX3_cost_129 (rfl : 129 + 1 = 130) rfl ?_
  refine ge_J_X3_48_J hX dX3_cost_130 (rfl : 130 + 3 = 133) ?_
  refine g_aload_n hX dX3_cost_133 (rfl : 133 + 1 = 134) rfl ?_
  refine ge_J_X3_10_J hX dX3_cost_134 (rfl : 134 + 3 = 137) ?_
  refine ge_J_X3_66_R hX dX3_cost_137 (rfl : 137 + 3 = 140) ?_
  refine g_icmp_le (tgt := 156) hX dX3_cost_140 (by decide) (rfl : 140 + 3 = 143) ?_ ?_
  · refine g_iload_n hX dX3_cost_156 (rfl : 156 + 1 = 157) rfl ?_
    refine g_drop (lv' := [some (.ref (q 0)), none, none, none, none, none]) 3 rfl ?_
    exact wX3_cost_157 hX v3 Y
  · refine g_bipush hX dX3_cost_143 (by decide) (rfl : 143 + 2 = 145) ?_
    refine g_aload_n hX dX3_cost_145 (rfl : 145 + 1 = 146) rfl ?_
    refine ge_J_X3_10_J hX dX3_cost_146 (rfl : 146 + 3 = 149) ?_
    refine ge_J_X3_66_R hX dX3_cost_149 (rfl : 149 + 3 = 152) ?_
    refine g_isub hX dX3_cost_152 (rfl : 152 + 1 = 153) ?_
    refine g_goto (pc' := 157) hX dX3_cost_153 (by decide) ?_
    refine g_drop (lv' := [some (.ref (q 0)), none, none, none, none, none]) 3 rfl ?_
    exact wX3_cost_157 hX (((-2) - (Y.2.1.1 4))) Y
set_option maxRecDepth 100000 in
theorem wX3_cost_118 {X : Cx} {D : va_G} {y : ClassId × ClassId × ClassId} {q : Nat → Nat} (hX : OKX X cX3_cost RX3 (rmk 2) (some .int) D y) {k_16 : Int → Int → Int → Int → (St × St × St × St × St) → Option (Int × (St × St × St × St × St))} (hk_16 : ∀ (v1 v2 v3 v4 : Int) (Y : St × St × St × St × St), GF X cX3_cost D (0, 0) (QI X D y (wJ y q)) (k_16 v1 v2 v3 v4 Y) 16 [some (.ref (q 0)), some (.int (iz v1)), some (.int (iz v2)), some (.int (iz v3)), some (.int (iz v4)), none] [] (wJ y q Y)) (v1 v2 v3 v4 v5 : Int) (Y : St × St × St × St × St) : GF X cX3_cost D (0, 0) (QI X D y (wJ y q)) (fX3_cost_j118 k_16 v1 v2 v3 v4 v5 Y) 118 [some (.ref (q 0)), some (.int (iz v1)), some (.int (iz v2)), some (.int (iz v3)), some (.int (iz v4)), some (.int (iz v5))] [] (wJ y q Y) := by
  unfold fX3_cost_j118
  refine g_iload_n hX dX3_cost_118 (rfl : 118 + 1 = 119) rfl ?_
  refine g_iload hX dX3_cost_119 (rfl : 119 + 2 = 121) rfl ?_
  refine g_ior hX dX3_cost_121 (rfl : 121 + 1 = 122) ?_
  refine g_istore_n (lv' := fun x101 => [some (.ref (q 0)), some (.int (iz v1)), some (.int (iz x101)), some (.int (iz v3)), some (.int (iz v4)), some (.int (iz v5))]) hX dX3_cost_122 (rfl : 122 + 1 = 123) rfl (fun _ => rfl) (fun x101 => ?_)
  refine g_iinc (lv' := fun x102 => [some (.ref (q 0)), some (.int (iz v1)), some (.int (iz x101)), some (.int (iz v3)), some (.int (iz x102)), some (.int (iz v5))]) hX dX3_cost_123 (rfl : 123 + 3 = 126) rfl (fun _ => rfl) (fun x102 => ?_)
  refine g_goto (pc' := 16) hX dX3_cost_126 (by decide) ?_
  refine g_drop (lv' := [some (.ref (q 0)), some (.int (iz v1)), some (.int (iz x101)), some (.int (iz v3)), some (.int (iz x102)), none]) 5 rfl ?_
  exact hk_16 v1 x101 v3 x102 Y
set_option maxRecDepth 100000 in
theorem wX3_cost_93 {X : Cx} {D : va_G} {y : ClassId × ClassId × ClassId} {q : Nat → Nat} (hX : OKX X cX3_cost RX3 (rmk 2) (some .int) D y) {k_16 : Int → Int → Int → Int → (St × St × St × St × St) → Option (Int × (St × St × St × St × St))} (hk_16 : ∀ (v1 v2 v3 v4 : Int) (Y : St × St × St × St × St), GF X cX3_cost D (0, 0) (QI X D y (wJ y q)) (k_16 v1 v2 v3 v4 Y) 16 [some (.ref (q 0)), some (.int (iz v1)), some (.int (iz v2)), some (.int (iz v3)), some (.int (iz v4)), none] [] (wJ y q Y)) (v1 v2 v3 v4 v5 : Int) (Y : St × St × St × St × St) : GF X cX3_cost D (0, 0) (QI X D y (wJ y q)) (fX3_cost_j93 k_16 v1 v2 v3 v4 v5 Y) 93 [some (.ref (q 0)), some (.int (iz v1)), some (.int (iz v2)), some (.int (iz v3)), some (.int (iz v4)), some (.int (iz v5))] [] (wJ y q Y) := by
  unfold fX3_cost_j93
  refine g_aload_n hX dX3_cost_93 (rfl : 93 + 1 = 94) rfl ?_
  refine ge_J_X3_39_J hX dX3_cost_94 (rfl : 94 + 3 = 97) ?_
  refine g_iload hX dX3_cost_97 (rfl : 97 + 2 = 99) rfl ?_
  refine al_J_J_5 hX dX3_cost_99 (rfl : 99 + 1 = 100) ?_
  refine g_iconst hX dX3_cost_100 (rfl : 100 + 1 = 101) ?_
  refine g_icmp_eq (tgt := 118) hX dX3_cost_101 (by decide) (rfl : 101 + 3 = 104) ?_ ?_
  · exact wX3_cost_118 hX hk_16 v1 v2 v3 v4 v5 Y
  · refine g_iload_n hX dX3_cost_104 (rfl : 104 + 1 = 105) rfl ?_
    refine g_iconst hX dX3_cost_105 (rfl : 105 + 1 = 106) ?_
    refine g_aload_n hX dX3_cost_106 (rfl : 106 + 1 = 107) rfl ?_
    refine ge_J_X3_39_J hX dX3_cost_107 (rfl : 107 + 3 = 110) ?_
    refine g_iload hX dX3_cost_110 (rfl : 110 + 2 = 112) rfl ?_
    refine al_J_J_5 hX dX3_cost_112 (rfl : 112 + 1 = 113) ?_
    refine g_ishl hX dX3_cost_113 (rfl : 113 + 1 = 114) ?_
    refine g_iconst hX dX3_cost_114 (rfl : 114 + 1 = 115) ?_
    refine g_ixor hX dX3_cost_115 (rfl : 115 + 1 = 116) ?_
    refine g_iand hX dX3_cost_116 (rfl : 116 + 1 = 117) ?_
    refine g_istore_n (lv' := fun x103 => [some (.ref (q 0)), some (.int (iz v1)), some (.int (iz x103)), some (.int (iz v3)), some (.int (iz v4)), some (.int (iz v5))]) hX dX3_cost_117 (rfl : 117 + 1 = 118) rfl (fun _ => rfl) (fun x103 => ?_)
    exact wX3_cost_118 hX hk_16 v1 x103 v3 v4 v5 Y
set_option maxRecDepth 100000 in
theorem wX3_cost_68 {X : Cx} {D : va_G} {y : ClassId × ClassId × ClassId} {q : Nat → Nat} (hX : OKX X cX3_cost RX3 (rmk 2) (some .int) D y) (v4 : Int) (Y : St × St × St × St × St) : GF X cX3_cost D (0, 0) (QI X D y (wJ y q)) (fX3_cost_j68 v4 Y) 68 [some (.ref (q 0)), none, none, none, some (.int (iz v4)), none] [] (wJ y q Y) := by
  unfold fX3_cost_j68
  refine g_bipush hX dX3_cost_68 (by decide) (rfl : 68 + 2 = 70) ?_
  refine g_iload hX dX3_cost_70 (rfl : 70 + 2 = 72) rfl ?_
  refine g_isub hX dX3_cost_72 (rfl : 72 + 1 = 73) ?_
  exact g_iret hX dX3_cost_73
set_option maxRecDepth 100000 in
theorem wX3_cost_16 {X : Cx} {D : va_G} {y : ClassId × ClassId × ClassId} {q : Nat → Nat} (hX : OKX X cX3_cost RX3 (rmk 2) (some .int) D y) : ∀ (n : Nat) (v1 v2 v3 v4 : Int) (Y : St × St × St × St × St), GF X cX3_cost D (0, 0) (QI X D y (wJ y q)) (fX3_cost_l16 n v1 v2 v3 v4 Y) 16 [some (.ref (q 0)), some (.int (iz v1)), some (.int (iz v2)), some (.int (iz v3)), some (.int (iz v4)), none] [] (wJ y q Y) := by
  intro n
  induction n with
  | zero => intro v1 v2 v3 v4 Y; exact g_none
  | succ n hk_16 =>
    intro v1 v2 v3 v4 Y
    unfold fX3_cost_l16
    refine g_iload hX dX3_cost_16 (rfl : 16 + 2 = 18) rfl ?_
    refine g_aload_n hX dX3_cost_18 (rfl : 18 + 1 = 19) rfl ?_
    refine ge_J_X3_10_J hX dX3_cost_19 (rfl : 19 + 3 = 22) ?_
    refine ge_J_X3_66_R hX dX3_cost_22 (rfl : 22 + 3 = 25) ?_
    refine g_icmp_ge (tgt := 129) hX dX3_cost_25 (by decide) (rfl : 25 + 3 = 28) ?_ ?_
    · refine g_drop (lv' := [some (.ref (q 0)), none, some (.int (iz v2)), some (.int (iz v3)), some (.int (iz v4)), none]) 1 rfl ?_
      refine g_drop (lv' := [some (.ref (q 0)), none, none, some (.int (iz v3)), some (.int (iz v4)), none]) 2 rfl ?_
      refine g_drop (lv' := [some (.ref (q 0)), none, none, some (.int (iz v3)), none, none]) 4 rfl ?_
      exact wX3_cost_129 hX v3 Y
    · refine g_iconst hX dX3_cost_28 (rfl : 28 + 1 = 29) ?_
      refine g_aload_n hX dX3_cost_29 (rfl : 29 + 1 = 30) rfl ?_
      refine ge_J_X3_10_J hX dX3_cost_30 (rfl : 30 + 3 = 33) ?_
      refine ge_J_X3_77_R hX dX3_cost_33 (rfl : 33 + 3 = 36) ?_
      refine g_iload hX dX3_cost_36 (rfl : 36 + 2 = 38) rfl ?_
      refine al_J_R_0 hX dX3_cost_38 (rfl : 38 + 1 = 39) ?_
      refine g_ishl hX dX3_cost_39 (rfl : 39 + 1 = 40) ?_
      refine g_istore (lv' := fun x104 => [some (.ref (q 0)), some (.int (iz v1)), some (.int (iz v2)), some (.int (iz v3)), some (.int (iz v4)), some (.int (iz x104))]) hX dX3_cost_40 (rfl : 40 + 2 = 42) rfl (fun _ => rfl) (fun x104 => ?_)
      refine g_iload hX dX3_cost_42 (rfl : 42 + 2 = 44) rfl ?_
      refine g_aload_n hX dX3_cost_44 (rfl : 44 + 1 = 45) rfl ?_
      refine ge_J_X3_48_J hX dX3_cost_45 (rfl : 45 + 3 = 48) ?_
      refine g_icmp_ge (tgt := 68) hX dX3_cost_48 (by decide) (rfl : 48 + 3 = 51) ?_ ?_
      · refine g_drop (lv' := [some (.ref (q 0)), none, some (.int (iz v2)), some (.int (iz v3)), some (.int (iz v4)), some (.int (iz x104))]) 1 rfl ?_
        refine g_drop (lv' := [some (.ref (q 0)), none, none, some (.int (iz v3)), some (.int (iz v4)), some (.int (iz x104))]) 2 rfl ?_
        refine g_drop (lv' := [some (.ref (q 0)), none, none, none, some (.int (iz v4)), some (.int (iz x104))]) 3 rfl ?_
        refine g_drop (lv' := [some (.ref (q 0)), none, none, none, some (.int (iz v4)), none]) 5 rfl ?_
        exact wX3_cost_68 hX v4 Y
      · refine g_aload_n hX dX3_cost_51 (rfl : 51 + 1 = 52) rfl ?_
        refine ge_J_X3_39_J hX dX3_cost_52 (rfl : 52 + 3 = 55) ?_
        refine g_iload hX dX3_cost_55 (rfl : 55 + 2 = 57) rfl ?_
        refine al_J_J_5 hX dX3_cost_57 (rfl : 57 + 1 = 58) ?_
        refine g_iload_n hX dX3_cost_58 (rfl : 58 + 1 = 59) rfl ?_
        refine g_iload hX dX3_cost_59 (rfl : 59 + 2 = 61) rfl ?_
        refine g_iload_n hX dX3_cost_61 (rfl : 61 + 1 = 62) rfl ?_
        refine g_callp hX (kX3_canGo _ _ _ _ _ _ _) mw_X3_159 (by decide) rfl rfl (Nat.le_of_ble_eq_true rfl) dX3_cost_62 (rfl : 62 + 3 = 65) (fun r105 => ?_)
        refine g_if_ne (tgt := 74) hX dX3_cost_65 (by decide) (rfl : 65 + 3 = 68) ?_ ?_
        · refine g_iload_n hX dX3_cost_74 (rfl : 74 + 1 = 75) rfl ?_
          refine g_iload hX dX3_cost_75 (rfl : 75 + 2 = 77) rfl ?_
          refine g_iand hX dX3_cost_77 (rfl : 77 + 1 = 78) ?_
          refine g_if_ne (tgt := 93) hX dX3_cost_78 (by decide) (rfl : 78 + 3 = 81) ?_ ?_
          · exact wX3_cost_93 hX hk_16 v1 v2 v3 v4 x104 Y
          · refine g_iload_n hX dX3_cost_81 (rfl : 81 + 1 = 82) rfl ?_
            refine g_aload_n hX dX3_cost_82 (rfl : 82 + 1 = 83) rfl ?_
            refine ge_J_X3_10_J hX dX3_cost_83 (rfl : 83 + 3 = 86) ?_
            refine g_iload hX dX3_cost_86 (rfl : 86 + 2 = 88) rfl ?_
            refine ci_JR hX (kX1_priceAt _ _ _ (fun k => q (k + 5)) _ _) mw_X3_109 (by decide) rfl rfl (Nat.le_of_ble_eq_true rfl) dX3_cost_88 (rfl : 88 + 3 = 91) (fun r107 Y106 => ?_)
            refine g_iadd hX dX3_cost_91 (rfl : 91 + 1 = 92) ?_
            refine g_istore_n (lv' := fun x108 => [some (.ref (q 0)), some (.int (iz v1)), some (.int (iz v2)), some (.int (iz x108)), some (.int (iz v4)), some (.int (iz x104))]) hX dX3_cost_92 (rfl : 92 + 1 = 93) rfl (fun _ => rfl) (fun x108 => ?_)
            exact wX3_cost_93 hX hk_16 v1 v2 x108 v4 x104 Y106
        · refine g_drop (lv' := [some (.ref (q 0)), none, some (.int (iz v2)), some (.int (iz v3)), some (.int (iz v4)), some (.int (iz x104))]) 1 rfl ?_
          refine g_drop (lv' := [some (.ref (q 0)), none, none, some (.int (iz v3)), some (.int (iz v4)), some (.int (iz x104))]) 2 rfl ?_
          refine g_drop (lv' := [some (.ref (q 0)), none, none, none, some (.int (iz v4)), some (.int (iz x104))]) 3 rfl ?_
          refine g_drop (lv' := [some (.ref (q 0)), none, none, none, some (.int (iz v4)), none]) 5 rfl ?_
          exact wX3_cost_68 hX v4 Y
