set_option maxRecDepth 100000 in
theorem wX2_begin_72 {X : Cx} {D : va_G} {y : ClassId × ClassId × ClassId} {q qr : Nat → Nat} (hX : OKX X cX2_begin RX2 (rmk 2) none D y) (Y : St × St) : GF X cX2_begin D (0, 0) (QV X D y (wS y q qr)) (fX2_begin_j72  Y) 72 [some (.ref (q 0)), none, none] [] (wS y q qr Y) := by
  unfold fX2_begin_j72
  exact g_vret hX dX2_begin_72
set_option maxRecDepth 100000 in
theorem kX2_begin (l : Launch) (D : va_G) (y : ClassId × ClassId × ClassId) (q qr : Nat → Nat) (Y : St × St) (a0 a1 : Int) : CtV l D y yX2_begin cX2_begin 3 (rmk 2) [.ref (q 0), .int (iz a0), .int (iz a1)] (wS y q qr) Y (fX2_begin Y a0 a1) := by
  refine ctV_of (own := RX2) rfl (by decide) (cat1 rfl) rfl (fun X hl hX => ?_)
  subst hl
  show GF X cX2_begin D (0, 0) (QV X D y (wS y q qr)) (fX2_begin Y a0 a1) 0 [some (.ref (q 0)), some (.int (iz a0)), some (.int (iz a1))] [] (wS y q qr Y)
  unfold fX2_begin
  refine g_aload_n hX dX2_begin_0 (rfl : 0 + 1 = 1) rfl ?_
  refine g_iload_n hX dX2_begin_1 (rfl : 1 + 1 = 2) rfl ?_
  refine pu_S_X2_44_S hX dX2_begin_2 (rfl : 2 + 3 = 5) (fun Y1 => ?_)
  refine g_aload_n hX dX2_begin_5 (rfl : 5 + 1 = 6) rfl ?_
  refine g_iload_n hX dX2_begin_6 (rfl : 6 + 1 = 7) rfl ?_
  refine pu_S_X2_40_S hX dX2_begin_7 (rfl : 7 + 3 = 10) (fun Y2 => ?_)
  refine g_aload_n hX dX2_begin_10 (rfl : 10 + 1 = 11) rfl ?_
  refine ge_S_X2_9_S hX dX2_begin_11 (rfl : 11 + 3 = 14) ?_
  refine g_iconst hX dX2_begin_14 (rfl : 14 + 1 = 15) ?_
  refine fi_S_X2_S_1 hX (by decide) (Nat.le_of_ble_eq_true rfl) dX2_begin_15 (rfl : 15 + 3 = 18) (fun Y3 => ?_)
  refine g_aload_n hX dX2_begin_18 (rfl : 18 + 1 = 19) rfl ?_
  refine ge_S_X2_15_S hX dX2_begin_19 (rfl : 19 + 3 = 22) ?_
  refine g_iconst hX dX2_begin_22 (rfl : 22 + 1 = 23) ?_
  refine fi_S_X2_S_2 hX (by decide) (Nat.le_of_ble_eq_true rfl) dX2_begin_23 (rfl : 23 + 3 = 26) (fun Y4 => ?_)
  refine g_aload_n hX dX2_begin_26 (rfl : 26 + 1 = 27) rfl ?_
  refine g_iconst hX dX2_begin_27 (rfl : 27 + 1 = 28) ?_
  refine pu_S_X2_53_S hX dX2_begin_28 (rfl : 28 + 3 = 31) (fun Y5 => ?_)
  refine g_aload_n hX dX2_begin_31 (rfl : 31 + 1 = 32) rfl ?_
  refine g_iconst hX dX2_begin_32 (rfl : 32 + 1 = 33) ?_
  refine pu_S_X2_56_S hX dX2_begin_33 (rfl : 33 + 3 = 36) (fun Y6 => ?_)
  refine g_aload_n hX dX2_begin_36 (rfl : 36 + 1 = 37) rfl ?_
  refine g_iconst hX dX2_begin_37 (rfl : 37 + 1 = 38) ?_
  refine pu_S_X2_59_S hX dX2_begin_38 (rfl : 38 + 3 = 41) (fun Y7 => ?_)
  refine g_aload_n hX dX2_begin_41 (rfl : 41 + 1 = 42) rfl ?_
  refine g_iconst hX dX2_begin_42 (rfl : 42 + 1 = 43) ?_
  refine pu_S_X2_62_S hX dX2_begin_43 (rfl : 43 + 3 = 46) (fun Y8 => ?_)
  refine g_aload_n hX dX2_begin_46 (rfl : 46 + 1 = 47) rfl ?_
  refine g_iconst hX dX2_begin_47 (rfl : 47 + 1 = 48) ?_
  refine pu_S_X2_65_S hX dX2_begin_48 (rfl : 48 + 3 = 51) (fun Y9 => ?_)
  refine g_aload_n hX dX2_begin_51 (rfl : 51 + 1 = 52) rfl ?_
  refine g_iconst hX dX2_begin_52 (rfl : 52 + 1 = 53) ?_
  refine pu_S_X2_68_S hX dX2_begin_53 (rfl : 53 + 3 = 56) (fun Y10 => ?_)
  refine g_aload_n hX dX2_begin_56 (rfl : 56 + 1 = 57) rfl ?_
  refine ge_S_X2_44_S hX dX2_begin_57 (rfl : 57 + 3 = 60) ?_
  refine g_bipush hX dX2_begin_60 (by decide) (rfl : 60 + 2 = 62) ?_
  refine g_icmp_ne (tgt := 72) hX dX2_begin_62 (by decide) (rfl : 62 + 3 = 65) ?_ ?_
  · refine g_drop (lv' := [some (.ref (q 0)), none, some (.int (iz a1))]) 1 rfl ?_
    refine g_drop (lv' := [some (.ref (q 0)), none, none]) 2 rfl ?_
    exact wX2_begin_72 hX  Y10
  · refine g_aload_n hX dX2_begin_65 (rfl : 65 + 1 = 66) rfl ?_
    refine ge_S_X2_36_S hX dX2_begin_66 (rfl : 66 + 3 = 69) ?_
    refine cv_SR hX (kX1_findNext _ _ _ (qr) _) mw_X2_71 (by decide) rfl rfl (Nat.le_of_ble_eq_true rfl) dX2_begin_69 (rfl : 69 + 3 = 72) (fun Y11 => ?_)
    refine g_drop (lv' := [some (.ref (q 0)), none, some (.int (iz a1))]) 1 rfl ?_
    refine g_drop (lv' := [some (.ref (q 0)), none, none]) 2 rfl ?_
    exact wX2_begin_72 hX  Y11
set_option maxRecDepth 100000 in
theorem wX2_lies_25 {X : Cx} {D : va_G} {y : ClassId × ClassId × ClassId} {q qr : Nat → Nat} (hX : OKX X cX2_lies RX2 (rmk 0) (some .boolean) D y) (s0 : Int) (Y : St × St) : GF X cX2_lies D (0, 0) (QI X D y (wS y q qr)) (fX2_lies_j25 s0 Y) 25 [some (.ref (q 0)), none] [.int (iz s0)] (wS y q qr Y) := by
  unfold fX2_lies_j25
  exact g_zret hX dX2_lies_25
set_option maxRecDepth 100000 in
theorem wX2_lies_20 {X : Cx} {D : va_G} {y : ClassId × ClassId × ClassId} {q qr : Nat → Nat} (hX : OKX X cX2_lies RX2 (rmk 0) (some .boolean) D y) (Y : St × St) : GF X cX2_lies D (0, 0) (QI X D y (wS y q qr)) (fX2_lies_j20  Y) 20 [some (.ref (q 0)), none] [] (wS y q qr Y) := by
  unfold fX2_lies_j20
  refine g_iconst hX dX2_lies_20 (rfl : 20 + 1 = 21) ?_
  refine g_goto (pc' := 25) hX dX2_lies_21 (by decide) ?_
  exact wX2_lies_25 hX 1 Y
set_option maxRecDepth 100000 in
theorem kX2_lies (l : Launch) (D : va_G) (y : ClassId × ClassId × ClassId) (q qr : Nat → Nat) (Y : St × St) (a0 : Int) : CtI l D y yX2_lies cX2_lies 2 (some .boolean) (rmk 0) [.ref (q 0), .int (iz a0)] (wS y q qr) Y (fX2_lies Y a0) := by
  refine ctI_of (own := RX2) rfl (by decide) (cat1 rfl) rfl (fun X hl hX => ?_)
  subst hl
  show GF X cX2_lies D (0, 0) (QI X D y (wS y q qr)) (fX2_lies Y a0) 0 [some (.ref (q 0)), some (.int (iz a0))] [] (wS y q qr Y)
  unfold fX2_lies
  refine g_aload_n hX dX2_lies_0 (rfl : 0 + 1 = 1) rfl ?_
  refine ge_S_X2_9_S hX dX2_lies_1 (rfl : 1 + 3 = 4) ?_
  refine g_iload_n hX dX2_lies_4 (rfl : 4 + 1 = 5) rfl ?_
  refine al_S_S_1 hX dX2_lies_5 (rfl : 5 + 1 = 6) ?_
  refine g_iconst hX dX2_lies_6 (rfl : 6 + 1 = 7) ?_
  refine g_icmp_eq (tgt := 20) hX dX2_lies_7 (by decide) (rfl : 7 + 3 = 10) ?_ ?_
  · refine g_drop (lv' := [some (.ref (q 0)), none]) 1 rfl ?_
    exact wX2_lies_20 hX  Y
  · refine g_aload_n hX dX2_lies_10 (rfl : 10 + 1 = 11) rfl ?_
    refine ge_S_X2_9_S hX dX2_lies_11 (rfl : 11 + 3 = 14) ?_
    refine g_iload_n hX dX2_lies_14 (rfl : 14 + 1 = 15) rfl ?_
    refine al_S_S_1 hX dX2_lies_15 (rfl : 15 + 1 = 16) ?_
    refine g_iconst hX dX2_lies_16 (rfl : 16 + 1 = 17) ?_
    refine g_icmp_ne (tgt := 24) hX dX2_lies_17 (by decide) (rfl : 17 + 3 = 20) ?_ ?_
    · refine g_iconst hX dX2_lies_24 (rfl : 24 + 1 = 25) ?_
      refine g_drop (lv' := [some (.ref (q 0)), none]) 1 rfl ?_
      exact wX2_lies_25 hX 0 Y
    · refine g_drop (lv' := [some (.ref (q 0)), none]) 1 rfl ?_
      exact wX2_lies_20 hX  Y
set_option maxRecDepth 100000 in
theorem wX2_hasBooks_22 {X : Cx} {D : va_G} {y : ClassId × ClassId × ClassId} {q qr : Nat → Nat} (hX : OKX X cX2_hasBooks RX2 (rmk 0) (some .boolean) D y) (s0 : Int) (Y : St × St) : GF X cX2_hasBooks D (0, 0) (QI X D y (wS y q qr)) (fX2_hasBooks_j22 s0 Y) 22 [some (.ref (q 0))] [.int (iz s0)] (wS y q qr Y) := by
  unfold fX2_hasBooks_j22
  exact g_zret hX dX2_hasBooks_22
set_option maxRecDepth 100000 in
theorem wX2_hasBooks_17 {X : Cx} {D : va_G} {y : ClassId × ClassId × ClassId} {q qr : Nat → Nat} (hX : OKX X cX2_hasBooks RX2 (rmk 0) (some .boolean) D y) (Y : St × St) : GF X cX2_hasBooks D (0, 0) (QI X D y (wS y q qr)) (fX2_hasBooks_j17  Y) 17 [some (.ref (q 0))] [] (wS y q qr Y) := by
  unfold fX2_hasBooks_j17
  refine g_iconst hX dX2_hasBooks_17 (rfl : 17 + 1 = 18) ?_
  refine g_goto (pc' := 22) hX dX2_hasBooks_18 (by decide) ?_
  exact wX2_hasBooks_22 hX 1 Y
set_option maxRecDepth 100000 in
theorem kX2_hasBooks (l : Launch) (D : va_G) (y : ClassId × ClassId × ClassId) (q qr : Nat → Nat) (Y : St × St) : CtI l D y yX2_hasBooks cX2_hasBooks 1 (some .boolean) (rmk 0) [.ref (q 0)] (wS y q qr) Y (fX2_hasBooks Y) := by
  refine ctI_of (own := RX2) rfl (by decide) (cat1 rfl) rfl (fun X hl hX => ?_)
  subst hl
  show GF X cX2_hasBooks D (0, 0) (QI X D y (wS y q qr)) (fX2_hasBooks Y) 0 [some (.ref (q 0))] [] (wS y q qr Y)
  unfold fX2_hasBooks
  refine g_aload_n hX dX2_hasBooks_0 (rfl : 0 + 1 = 1) rfl ?_
  refine ge_S_X2_44_S hX dX2_hasBooks_1 (rfl : 1 + 3 = 4) ?_
  refine g_iconst hX dX2_hasBooks_4 (rfl : 4 + 1 = 5) ?_
  refine g_icmp_eq (tgt := 17) hX dX2_hasBooks_5 (by decide) (rfl : 5 + 3 = 8) ?_ ?_
  · exact wX2_hasBooks_17 hX  Y
  · refine g_aload_n hX dX2_hasBooks_8 (rfl : 8 + 1 = 9) rfl ?_
    refine ge_S_X2_44_S hX dX2_hasBooks_9 (rfl : 9 + 3 = 12) ?_
    refine g_bipush hX dX2_hasBooks_12 (by decide) (rfl : 12 + 2 = 14) ?_
    refine g_icmp_ne (tgt := 21) hX dX2_hasBooks_14 (by decide) (rfl : 14 + 3 = 17) ?_ ?_
    · refine g_iconst hX dX2_hasBooks_21 (rfl : 21 + 1 = 22) ?_
      exact wX2_hasBooks_22 hX 0 Y
    · exact wX2_hasBooks_17 hX  Y
set_option maxRecDepth 100000 in
theorem kX2_move (l : Launch) (D : va_G) (y : ClassId × ClassId × ClassId) (q qr : Nat → Nat) (Y : St × St) (a0 a1 : Int) : CtV l D y yX2_move cX2_move 3 (rmk 0) [.ref (q 0), .int (iz a0), .int (iz a1)] (wS y q qr) Y (fX2_move Y a0 a1) := by
  refine ctV_of (own := RX2) rfl (by decide) (cat1 rfl) rfl (fun X hl hX => ?_)
  subst hl
  show GF X cX2_move D (0, 0) (QV X D y (wS y q qr)) (fX2_move Y a0 a1) 0 [some (.ref (q 0)), some (.int (iz a0)), some (.int (iz a1))] [] (wS y q qr Y)
  unfold fX2_move
  refine g_aload_n hX dX2_move_0 (rfl : 0 + 1 = 1) rfl ?_
  refine ge_S_X2_15_S hX dX2_move_1 (rfl : 1 + 3 = 4) ?_
  refine g_aload_n hX dX2_move_4 (rfl : 4 + 1 = 5) rfl ?_
  refine ge_S_X2_9_S hX dX2_move_5 (rfl : 5 + 3 = 8) ?_
  refine g_iload_n hX dX2_move_8 (rfl : 8 + 1 = 9) rfl ?_
  refine al_S_S_1 hX dX2_move_9 (rfl : 9 + 1 = 10) ?_
  refine g_dup2 hX dX2_move_10 rfl rfl (rfl : 10 + 1 = 11) ?_
  refine al_S_S_2 hX dX2_move_11 (rfl : 11 + 1 = 12) ?_
  refine g_iconst hX dX2_move_12 (rfl : 12 + 1 = 13) ?_
  refine g_isub hX dX2_move_13 (rfl : 13 + 1 = 14) ?_
  refine as_S_S_2 hX dX2_move_14 (rfl : 14 + 1 = 15) (fun Y1 => ?_)
  refine g_aload_n hX dX2_move_15 (rfl : 15 + 1 = 16) rfl ?_
  refine ge_S_X2_15_S hX dX2_move_16 (rfl : 16 + 3 = 19) ?_
  refine g_iload_n hX dX2_move_19 (rfl : 19 + 1 = 20) rfl ?_
  refine g_dup2 hX dX2_move_20 rfl rfl (rfl : 20 + 1 = 21) ?_
  refine al_S_S_2 hX dX2_move_21 (rfl : 21 + 1 = 22) ?_
  refine g_iconst hX dX2_move_22 (rfl : 22 + 1 = 23) ?_
  refine g_iadd hX dX2_move_23 (rfl : 23 + 1 = 24) ?_
  refine as_S_S_2 hX dX2_move_24 (rfl : 24 + 1 = 25) (fun Y2 => ?_)
  refine g_aload_n hX dX2_move_25 (rfl : 25 + 1 = 26) rfl ?_
  refine ge_S_X2_9_S hX dX2_move_26 (rfl : 26 + 3 = 29) ?_
  refine g_iload_n hX dX2_move_29 (rfl : 29 + 1 = 30) rfl ?_
  refine g_iload_n hX dX2_move_30 (rfl : 30 + 1 = 31) rfl ?_
  refine as_S_S_1 hX dX2_move_31 (rfl : 31 + 1 = 32) (fun Y3 => ?_)
  refine g_aload_n hX dX2_move_32 (rfl : 32 + 1 = 33) rfl ?_
  refine ge_S_X2_18_S hX dX2_move_33 (rfl : 33 + 3 = 36) ?_
  refine g_iload_n hX dX2_move_36 (rfl : 36 + 1 = 37) rfl ?_
  refine g_aload_n hX dX2_move_37 (rfl : 37 + 1 = 38) rfl ?_
  refine ge_S_X2_53_S hX dX2_move_38 (rfl : 38 + 3 = 41) ?_
  refine as_S_S_3 hX dX2_move_41 (rfl : 41 + 1 = 42) (fun Y4 => ?_)
  exact g_vret hX dX2_move_42
set_option maxRecDepth 100000 in
theorem wX2_meet_35 {X : Cx} {D : va_G} {y : ClassId × ClassId × ClassId} {q qr : Nat → Nat} (hX : OKX X cX2_meet RX2 (rmk 1) none D y) (Y : St × St) : GF X cX2_meet D (0, 0) (QV X D y (wS y q qr)) (fX2_meet_j35  Y) 35 [some (.ref (q 0)), none] [] (wS y q qr Y) := by
  unfold fX2_meet_j35
  exact g_vret hX dX2_meet_35
set_option maxRecDepth 100000 in
theorem kX2_meet (l : Launch) (D : va_G) (y : ClassId × ClassId × ClassId) (q qr : Nat → Nat) (Y : St × St) (a0 : Int) : CtV l D y yX2_meet cX2_meet 2 (rmk 1) [.ref (q 0), .int (iz a0)] (wS y q qr) Y (fX2_meet Y a0) := by
  refine ctV_of (own := RX2) rfl (by decide) (cat1 rfl) rfl (fun X hl hX => ?_)
  subst hl
  show GF X cX2_meet D (0, 0) (QV X D y (wS y q qr)) (fX2_meet Y a0) 0 [some (.ref (q 0)), some (.int (iz a0))] [] (wS y q qr Y)
  unfold fX2_meet
  refine g_aload_n hX dX2_meet_0 (rfl : 0 + 1 = 1) rfl ?_
  refine ge_S_X2_24_S hX dX2_meet_1 (rfl : 1 + 3 = 4) ?_
  refine g_iload_n hX dX2_meet_4 (rfl : 4 + 1 = 5) rfl ?_
  refine g_dup2 hX dX2_meet_5 rfl rfl (rfl : 5 + 1 = 6) ?_
  refine al_S_S_5 hX dX2_meet_6 (rfl : 6 + 1 = 7) ?_
  refine g_iconst hX dX2_meet_7 (rfl : 7 + 1 = 8) ?_
  refine g_iadd hX dX2_meet_8 (rfl : 8 + 1 = 9) ?_
  refine as_S_S_5 hX dX2_meet_9 (rfl : 9 + 1 = 10) (fun Y1 => ?_)
  refine g_aload_n hX dX2_meet_10 (rfl : 10 + 1 = 11) rfl ?_
  refine g_dup hX dX2_meet_11 rfl (rfl : 11 + 1 = 12) ?_
  refine ge_S_X2_56_S hX dX2_meet_12 (rfl : 12 + 3 = 15) ?_
  refine g_iconst hX dX2_meet_15 (rfl : 15 + 1 = 16) ?_
  refine g_iload_n hX dX2_meet_16 (rfl : 16 + 1 = 17) rfl ?_
  refine g_ishl hX dX2_meet_17 (rfl : 17 + 1 = 18) ?_
  refine g_ior hX dX2_meet_18 (rfl : 18 + 1 = 19) ?_
  refine pu_S_X2_56_S hX dX2_meet_19 (rfl : 19 + 3 = 22) (fun Y2 => ?_)
  refine g_aload_n hX dX2_meet_22 (rfl : 22 + 1 = 23) rfl ?_
  refine ci_SS hX (kX2_hasBooks _ _ _ (q) (qr) _) mw_X2_112 (by decide) rfl rfl (Nat.le_of_ble_eq_true rfl) dX2_meet_23 (rfl : 23 + 3 = 26) (fun r4 Y3 => ?_)
  refine g_if_eq (tgt := 35) hX dX2_meet_26 (by decide) (rfl : 26 + 3 = 29) ?_ ?_
  · refine g_drop (lv' := [some (.ref (q 0)), none]) 1 rfl ?_
    exact wX2_meet_35 hX  Y3
  · refine g_aload_n hX dX2_meet_29 (rfl : 29 + 1 = 30) rfl ?_
    refine g_iload_n hX dX2_meet_30 (rfl : 30 + 1 = 31) rfl ?_
    refine g_iconst hX dX2_meet_31 (rfl : 31 + 1 = 32) ?_
    refine cv_SS hX (kX2_move _ _ _ (q) (qr) _ _ _) mw_X2_116 (by decide) rfl rfl (Nat.le_of_ble_eq_true rfl) dX2_meet_32 (rfl : 32 + 3 = 35) (fun Y5 => ?_)
    refine g_drop (lv' := [some (.ref (q 0)), none]) 1 rfl ?_
    exact wX2_meet_35 hX  Y5
set_option maxRecDepth 100000 in
theorem wX2_partFor_70 {X : Cx} {D : va_G} {y : ClassId × ClassId × ClassId} {q qr : Nat → Nat} (hX : OKX X cX2_partFor RX2 (rmk 1) (some .int) D y) (v1 : Int) (Y : St × St) : GF X cX2_partFor D (0, 0) (QI X D y (wS y q qr)) (fX2_partFor_j70 v1 Y) 70 [some (.ref (q 0)), some (.int (iz v1)), none] [] (wS y q qr Y) := by
  unfold fX2_partFor_j70
  refine g_aload_n hX dX2_partFor_70 (rfl : 70 + 1 = 71) rfl ?_
  refine g_iload_n hX dX2_partFor_71 (rfl : 71 + 1 = 72) rfl ?_
  refine g_iconst hX dX2_partFor_72 (rfl : 72 + 1 = 73) ?_
  refine cv_SS hX (kX2_move _ _ _ (q) (qr) _ _ _) mw_X2_116 (by decide) rfl rfl (Nat.le_of_ble_eq_true rfl) dX2_partFor_73 (rfl : 73 + 3 = 76) (fun Y101 => ?_)
  refine g_iconst hX dX2_partFor_76 (rfl : 76 + 1 = 77) ?_
  exact g_iret hX dX2_partFor_77
set_option maxRecDepth 100000 in
theorem wX2_partFor_47 {X : Cx} {D : va_G} {y : ClassId × ClassId × ClassId} {q qr : Nat → Nat} (hX : OKX X cX2_partFor RX2 (rmk 1) (some .int) D y) (v1 : Int) (Y : St × St) : GF X cX2_partFor D (0, 0) (QI X D y (wS y q qr)) (fX2_partFor_j47 v1 Y) 47 [some (.ref (q 0)), some (.int (iz v1)), none] [] (wS y q qr Y) := by
  unfold fX2_partFor_j47
  refine g_aload_n hX dX2_partFor_47 (rfl : 47 + 1 = 48) rfl ?_
  refine ge_S_X2_44_S hX dX2_partFor_48 (rfl : 48 + 3 = 51) ?_
  refine g_bipush hX dX2_partFor_51 (by decide) (rfl : 51 + 2 = 53) ?_
  refine g_icmp_ne (tgt := 70) hX dX2_partFor_53 (by decide) (rfl : 53 + 3 = 56) ?_ ?_
  · exact wX2_partFor_70 hX v1 Y
  · refine g_aload_n hX dX2_partFor_56 (rfl : 56 + 1 = 57) rfl ?_
    refine g_iconst hX dX2_partFor_57 (rfl : 57 + 1 = 58) ?_
    refine g_aload_n hX dX2_partFor_58 (rfl : 58 + 1 = 59) rfl ?_
    refine ge_S_X2_65_S hX dX2_partFor_59 (rfl : 59 + 3 = 62) ?_
    refine g_iconst hX dX2_partFor_62 (rfl : 62 + 1 = 63) ?_
    refine g_isub hX dX2_partFor_63 (rfl : 63 + 1 = 64) ?_
    refine g_mmax hX mw_X2_137 (by decide) (Nat.le_of_ble_eq_true rfl) dX2_partFor_64 (rfl : 64 + 3 = 67) ?_
    refine pu_S_X2_65_S hX dX2_partFor_67 (rfl : 67 + 3 = 70) (fun Y102 => ?_)
    exact wX2_partFor_70 hX v1 Y102
set_option maxRecDepth 100000 in
theorem kX2_partFor (l : Launch) (D : va_G) (y : ClassId × ClassId × ClassId) (q qr : Nat → Nat) (Y : St × St) (a0 : Int) : CtI l D y yX2_partFor cX2_partFor 3 (some .int) (rmk 1) [.ref (q 0), .int (iz a0)] (wS y q qr) Y (fX2_partFor Y a0) := by
  refine ctI_of (own := RX2) rfl (by decide) (cat1 rfl) rfl (fun X hl hX => ?_)
  subst hl
  show GF X cX2_partFor D (0, 0) (QI X D y (wS y q qr)) (fX2_partFor Y a0) 0 [some (.ref (q 0)), some (.int (iz a0)), none] [] (wS y q qr Y)
  unfold fX2_partFor
  refine g_aload_n hX dX2_partFor_0 (rfl : 0 + 1 = 1) rfl ?_
  refine ge_S_X2_9_S hX dX2_partFor_1 (rfl : 1 + 3 = 4) ?_
  refine g_iload_n hX dX2_partFor_4 (rfl : 4 + 1 = 5) rfl ?_
  refine al_S_S_1 hX dX2_partFor_5 (rfl : 5 + 1 = 6) ?_
  refine g_istore_n (lv' := fun x1 => [some (.ref (q 0)), some (.int (iz a0)), some (.int (iz x1))]) hX dX2_partFor_6 (rfl : 6 + 1 = 7) rfl (fun _ => rfl) (fun x1 => ?_)
  refine g_iload_n hX dX2_partFor_7 (rfl : 7 + 1 = 8) rfl ?_
  refine g_if_ne (tgt := 13) hX dX2_partFor_8 (by decide) (rfl : 8 + 3 = 11) ?_ ?_
  · refine g_aload_n hX dX2_partFor_13 (rfl : 13 + 1 = 14) rfl ?_
    refine ge_S_X2_44_S hX dX2_partFor_14 (rfl : 14 + 3 = 17) ?_
    refine g_bipush hX dX2_partFor_17 (by decide) (rfl : 17 + 2 = 19) ?_
    refine g_icmp_ne (tgt := 47) hX dX2_partFor_19 (by decide) (rfl : 19 + 3 = 22) ?_ ?_
    · refine g_drop (lv' := [some (.ref (q 0)), some (.int (iz a0)), none]) 2 rfl ?_
      exact wX2_partFor_47 hX a0 Y
    · refine g_iload_n hX dX2_partFor_22 (rfl : 22 + 1 = 23) rfl ?_
      refine g_iconst hX dX2_partFor_23 (rfl : 23 + 1 = 24) ?_
      refine g_icmp_ne (tgt := 47) hX dX2_partFor_24 (by decide) (rfl : 24 + 3 = 27) ?_ ?_
      · refine g_drop (lv' := [some (.ref (q 0)), some (.int (iz a0)), none]) 2 rfl ?_
        exact wX2_partFor_47 hX a0 Y
      · refine g_aload_n hX dX2_partFor_27 (rfl : 27 + 1 = 28) rfl ?_
        refine g_aload_n hX dX2_partFor_28 (rfl : 28 + 1 = 29) rfl ?_
        refine ge_S_X2_40_S hX dX2_partFor_29 (rfl : 29 + 3 = 32) ?_
        refine g_aload_n hX dX2_partFor_32 (rfl : 32 + 1 = 33) rfl ?_
        refine ge_S_X2_65_S hX dX2_partFor_33 (rfl : 33 + 3 = 36) ?_
        refine g_iconst hX dX2_partFor_36 (rfl : 36 + 1 = 37) ?_
        refine g_iadd hX dX2_partFor_37 (rfl : 37 + 1 = 38) ?_
        refine g_mmin hX mw_X2_131 (by decide) (Nat.le_of_ble_eq_true rfl) dX2_partFor_38 (rfl : 38 + 3 = 41) ?_
        refine pu_S_X2_65_S hX dX2_partFor_41 (rfl : 41 + 3 = 44) (fun Y2 => ?_)
        refine g_goto (pc' := 70) hX dX2_partFor_44 (by decide) ?_
        refine g_drop (lv' := [some (.ref (q 0)), some (.int (iz a0)), none]) 2 rfl ?_
        exact wX2_partFor_70 hX a0 Y2
  · refine g_iconst hX dX2_partFor_11 (rfl : 11 + 1 = 12) ?_
    exact g_iret hX dX2_partFor_12
set_option maxRecDepth 100000 in
theorem kX2_lying (l : Launch) (D : va_G) (y : ClassId × ClassId × ClassId) (q qr : Nat → Nat) (Y : St × St) : CtI l D y yX2_lying cX2_lying 1 (some .int) (rmk 0) [.ref (q 0)] (wS y q qr) Y (fX2_lying Y) := by
  refine ctI_of (own := RX2) rfl (by decide) (cat1 rfl) rfl (fun X hl hX => ?_)
  subst hl
  show GF X cX2_lying D (0, 0) (QI X D y (wS y q qr)) (fX2_lying Y) 0 [some (.ref (q 0))] [] (wS y q qr Y)
  unfold fX2_lying
  refine g_aload_n hX dX2_lying_0 (rfl : 0 + 1 = 1) rfl ?_
  refine ge_S_X2_15_S hX dX2_lying_1 (rfl : 1 + 3 = 4) ?_
  refine g_iconst hX dX2_lying_4 (rfl : 4 + 1 = 5) ?_
  refine al_S_S_2 hX dX2_lying_5 (rfl : 5 + 1 = 6) ?_
  refine g_aload_n hX dX2_lying_6 (rfl : 6 + 1 = 7) rfl ?_
  refine ge_S_X2_15_S hX dX2_lying_7 (rfl : 7 + 3 = 10) ?_
  refine g_iconst hX dX2_lying_10 (rfl : 10 + 1 = 11) ?_
  refine al_S_S_2 hX dX2_lying_11 (rfl : 11 + 1 = 12) ?_
  refine g_iadd hX dX2_lying_12 (rfl : 12 + 1 = 13) ?_
  exact g_iret hX dX2_lying_13
set_option maxRecDepth 100000 in
theorem wX2_endFullRound_29 {X : Cx} {D : va_G} {y : ClassId × ClassId × ClassId} {q qr : Nat → Nat} (hX : OKX X cX2_endFullRound RX2 (rmk 1) none D y) (Y : St × St) : GF X cX2_endFullRound D (0, 0) (QV X D y (wS y q qr)) (fX2_endFullRound_j29  Y) 29 [some (.ref (q 0))] [] (wS y q qr Y) := by
  unfold fX2_endFullRound_j29
  exact g_vret hX dX2_endFullRound_29
set_option maxRecDepth 100000 in
theorem kX2_endFullRound (l : Launch) (D : va_G) (y : ClassId × ClassId × ClassId) (q qr : Nat → Nat) (Y : St × St) : CtV l D y yX2_endFullRound cX2_endFullRound 1 (rmk 1) [.ref (q 0)] (wS y q qr) Y (fX2_endFullRound Y) := by
  refine ctV_of (own := RX2) rfl (by decide) (cat1 rfl) rfl (fun X hl hX => ?_)
  subst hl
  show GF X cX2_endFullRound D (0, 0) (QV X D y (wS y q qr)) (fX2_endFullRound Y) 0 [some (.ref (q 0))] [] (wS y q qr Y)
  unfold fX2_endFullRound
  refine g_aload_n hX dX2_endFullRound_0 (rfl : 0 + 1 = 1) rfl ?_
  refine ge_S_X2_56_S hX dX2_endFullRound_1 (rfl : 1 + 3 = 4) ?_
  refine g_callp hX (kJ6_bitCount_0f7a4 _ _ _ _) mw_X2_152 (by decide) rfl rfl (Nat.le_of_ble_eq_true rfl) dX2_endFullRound_4 (rfl : 4 + 3 = 7) (fun r1 => ?_)
  refine g_aload_n hX dX2_endFullRound_7 (rfl : 7 + 1 = 8) rfl ?_
  refine ge_S_X2_40_S hX dX2_endFullRound_8 (rfl : 8 + 3 = 11) ?_
  refine g_icmp_lt (tgt := 29) hX dX2_endFullRound_11 (by decide) (rfl : 11 + 3 = 14) ?_ ?_
  · exact wX2_endFullRound_29 hX  Y
  · refine g_aload_n hX dX2_endFullRound_14 (rfl : 14 + 1 = 15) rfl ?_
    refine g_iconst hX dX2_endFullRound_15 (rfl : 15 + 1 = 16) ?_
    refine pu_S_X2_56_S hX dX2_endFullRound_16 (rfl : 16 + 3 = 19) (fun Y2 => ?_)
    refine g_aload_n hX dX2_endFullRound_19 (rfl : 19 + 1 = 20) rfl ?_
    refine g_dup hX dX2_endFullRound_20 rfl (rfl : 20 + 1 = 21) ?_
    refine ge_S_X2_59_S hX dX2_endFullRound_21 (rfl : 21 + 3 = 24) ?_
    refine g_iconst hX dX2_endFullRound_24 (rfl : 24 + 1 = 25) ?_
    refine g_iadd hX dX2_endFullRound_25 (rfl : 25 + 1 = 26) ?_
    refine pu_S_X2_59_S hX dX2_endFullRound_26 (rfl : 26 + 3 = 29) (fun Y3 => ?_)
    exact wX2_endFullRound_29 hX  Y3
set_option maxRecDepth 100000 in
theorem wX2_keyOf_141 {X : Cx} {D : va_G} {y : ClassId × ClassId × ClassId} {q qr : Nat → Nat} (hX : OKX X cX2_keyOf RX2 (rmk 0) (some .int) D y) (v1 : Int) (Y : St × St) : GF X cX2_keyOf D (0, 0) (QI X D y (wS y q qr)) (fX2_keyOf_j141 v1 Y) 141 [some (.ref (q 0)), some (.int (iz v1))] [] (wS y q qr Y) := by
  unfold fX2_keyOf_j141
  refine g_aload_n hX dX2_keyOf_141 (rfl : 141 + 1 = 142) rfl ?_
  refine ge_S_X2_21_S hX dX2_keyOf_142 (rfl : 142 + 3 = 145) ?_
  refine g_iload_n hX dX2_keyOf_145 (rfl : 145 + 1 = 146) rfl ?_
  refine al_S_S_4 hX dX2_keyOf_146 (rfl : 146 + 1 = 147) ?_
  exact g_iret hX dX2_keyOf_147
set_option maxRecDepth 100000 in
theorem wX2_keyOf_106 {X : Cx} {D : va_G} {y : ClassId × ClassId × ClassId} {q qr : Nat → Nat} (hX : OKX X cX2_keyOf RX2 (rmk 0) (some .int) D y) (s0 : Int) (Y : St × St) : GF X cX2_keyOf D (0, 0) (QI X D y (wS y q qr)) (fX2_keyOf_j106 s0 Y) 106 [some (.ref (q 0)), none] [.int (iz s0)] (wS y q qr Y) := by
  unfold fX2_keyOf_j106
  exact g_iret hX dX2_keyOf_106
set_option maxRecDepth 100000 in
theorem wX2_keyOf_81 {X : Cx} {D : va_G} {y : ClassId × ClassId × ClassId} {q qr : Nat → Nat} (hX : OKX X cX2_keyOf RX2 (rmk 0) (some .int) D y) (v1 : Int) (Y : St × St) : GF X cX2_keyOf D (0, 0) (QI X D y (wS y q qr)) (fX2_keyOf_j81 v1 Y) 81 [some (.ref (q 0)), some (.int (iz v1))] [] (wS y q qr Y) := by
  unfold fX2_keyOf_j81
  refine g_aload_n hX dX2_keyOf_81 (rfl : 81 + 1 = 82) rfl ?_
  refine ge_S_X2_9_S hX dX2_keyOf_82 (rfl : 82 + 3 = 85) ?_
  refine g_iload_n hX dX2_keyOf_85 (rfl : 85 + 1 = 86) rfl ?_
  refine al_S_S_1 hX dX2_keyOf_86 (rfl : 86 + 1 = 87) ?_
  refine g_iconst hX dX2_keyOf_87 (rfl : 87 + 1 = 88) ?_
  refine g_icmp_ne (tgt := 100) hX dX2_keyOf_88 (by decide) (rfl : 88 + 3 = 91) ?_ ?_
  · refine g_aload_n hX dX2_keyOf_100 (rfl : 100 + 1 = 101) rfl ?_
    refine ge_S_X2_18_S hX dX2_keyOf_101 (rfl : 101 + 3 = 104) ?_
    refine g_iload_n hX dX2_keyOf_104 (rfl : 104 + 1 = 105) rfl ?_
    refine al_S_S_3 hX dX2_keyOf_105 (rfl : 105 + 1 = 106) ?_
    refine g_drop (lv' := [some (.ref (q 0)), none]) 1 rfl ?_
    exact wX2_keyOf_106 hX ((Y.1.2 3 (Int.toNat v1))) Y
  · refine g_aload_n hX dX2_keyOf_91 (rfl : 91 + 1 = 92) rfl ?_
    refine ge_S_X2_21_S hX dX2_keyOf_92 (rfl : 92 + 3 = 95) ?_
    refine g_iload_n hX dX2_keyOf_95 (rfl : 95 + 1 = 96) rfl ?_
    refine al_S_S_4 hX dX2_keyOf_96 (rfl : 96 + 1 = 97) ?_
    refine g_goto (pc' := 106) hX dX2_keyOf_97 (by decide) ?_
    refine g_drop (lv' := [some (.ref (q 0)), none]) 1 rfl ?_
    exact wX2_keyOf_106 hX ((Y.1.2 4 (Int.toNat v1))) Y
set_option maxRecDepth 100000 in
theorem kX2_keyOf (l : Launch) (D : va_G) (y : ClassId × ClassId × ClassId) (q qr : Nat → Nat) (Y : St × St) (a0 : Int) : CtI l D y yX2_keyOf cX2_keyOf 2 (some .int) (rmk 0) [.ref (q 0), .int (iz a0)] (wS y q qr) Y (fX2_keyOf Y a0) := by
  refine ctI_of (own := RX2) rfl (by decide) (cat1 rfl) rfl (fun X hl hX => ?_)
  subst hl
  show GF X cX2_keyOf D (0, 0) (QI X D y (wS y q qr)) (fX2_keyOf Y a0) 0 [some (.ref (q 0)), some (.int (iz a0))] [] (wS y q qr Y)
  unfold fX2_keyOf
  refine g_aload_n hX dX2_keyOf_0 (rfl : 0 + 1 = 1) rfl ?_
  refine ge_S_X2_44_S hX dX2_keyOf_1 (rfl : 1 + 3 = 4) ?_
  refine g_ite (fun c1 => ?_) (fun c1 => ?_)
  · refine g_tab (tgt := 56) hX c1 dX2_keyOf_4 (by decide) (by decide) rfl (by decide) ?_
    refine g_aload_n hX dX2_keyOf_56 (rfl : 56 + 1 = 57) rfl ?_
    refine ge_S_X2_18_S hX dX2_keyOf_57 (rfl : 57 + 3 = 60) ?_
    refine g_iload_n hX dX2_keyOf_60 (rfl : 60 + 1 = 61) rfl ?_
    refine al_S_S_3 hX dX2_keyOf_61 (rfl : 61 + 1 = 62) ?_
    exact g_iret hX dX2_keyOf_62
  refine g_ite (fun c2 => ?_) (fun c2 => ?_)
  · refine g_tab (tgt := 141) hX c2 dX2_keyOf_4 (by decide) (by decide) rfl (by decide) ?_
    exact wX2_keyOf_141 hX a0 Y
  refine g_ite (fun c3 => ?_) (fun c3 => ?_)
  · refine g_tab (tgt := 141) hX c3 dX2_keyOf_4 (by decide) (by decide) rfl (by decide) ?_
    exact wX2_keyOf_141 hX a0 Y
  refine g_ite (fun c4 => ?_) (fun c4 => ?_)
  · refine g_tab (tgt := 141) hX c4 dX2_keyOf_4 (by decide) (by decide) rfl (by decide) ?_
    exact wX2_keyOf_141 hX a0 Y
  refine g_ite (fun c5 => ?_) (fun c5 => ?_)
  · refine g_tab (tgt := 63) hX c5 dX2_keyOf_4 (by decide) (by decide) rfl (by decide) ?_
    refine g_aload_n hX dX2_keyOf_63 (rfl : 63 + 1 = 64) rfl ?_
    refine ge_S_X2_24_S hX dX2_keyOf_64 (rfl : 64 + 3 = 67) ?_
    refine g_iload_n hX dX2_keyOf_67 (rfl : 67 + 1 = 68) rfl ?_
    refine al_S_S_5 hX dX2_keyOf_68 (rfl : 68 + 1 = 69) ?_
    refine g_sipush hX dX2_keyOf_69 (by decide) (rfl : 69 + 3 = 72) ?_
    refine g_imul hX dX2_keyOf_72 (rfl : 72 + 1 = 73) ?_
    refine g_aload_n hX dX2_keyOf_73 (rfl : 73 + 1 = 74) rfl ?_
    refine ge_S_X2_21_S hX dX2_keyOf_74 (rfl : 74 + 3 = 77) ?_
    refine g_iload_n hX dX2_keyOf_77 (rfl : 77 + 1 = 78) rfl ?_
    refine al_S_S_4 hX dX2_keyOf_78 (rfl : 78 + 1 = 79) ?_
    refine g_iadd hX dX2_keyOf_79 (rfl : 79 + 1 = 80) ?_
    exact g_iret hX dX2_keyOf_80
  refine g_ite (fun c6 => ?_) (fun c6 => ?_)
  · refine g_tab (tgt := 81) hX c6 dX2_keyOf_4 (by decide) (by decide) rfl (by decide) ?_
    exact wX2_keyOf_81 hX a0 Y
  refine g_ite (fun c7 => ?_) (fun c7 => ?_)
  · refine g_tab (tgt := 81) hX c7 dX2_keyOf_4 (by decide) (by decide) rfl (by decide) ?_
    exact wX2_keyOf_81 hX a0 Y
  refine g_ite (fun c8 => ?_) (fun c8 => ?_)
  · refine g_tab (tgt := 107) hX c8 dX2_keyOf_4 (by decide) (by decide) rfl (by decide) ?_
    refine g_aload_n hX dX2_keyOf_107 (rfl : 107 + 1 = 108) rfl ?_
    refine ge_S_X2_27_S hX dX2_keyOf_108 (rfl : 108 + 3 = 111) ?_
    refine g_iload_n hX dX2_keyOf_111 (rfl : 111 + 1 = 112) rfl ?_
    refine al_S_S_6 hX dX2_keyOf_112 (rfl : 112 + 1 = 113) ?_
    refine g_sipush hX dX2_keyOf_113 (by decide) (rfl : 113 + 3 = 116) ?_
    refine g_imul hX dX2_keyOf_116 (rfl : 116 + 1 = 117) ?_
    refine g_aload_n hX dX2_keyOf_117 (rfl : 117 + 1 = 118) rfl ?_
    refine ge_S_X2_21_S hX dX2_keyOf_118 (rfl : 118 + 3 = 121) ?_
    refine g_iload_n hX dX2_keyOf_121 (rfl : 121 + 1 = 122) rfl ?_
    refine al_S_S_4 hX dX2_keyOf_122 (rfl : 122 + 1 = 123) ?_
    refine g_iadd hX dX2_keyOf_123 (rfl : 123 + 1 = 124) ?_
    exact g_iret hX dX2_keyOf_124
  refine g_ite (fun c9 => ?_) (fun c9 => ?_)
  · refine g_tab (tgt := 125) hX c9 dX2_keyOf_4 (by decide) (by decide) rfl (by decide) ?_
    refine g_aload_n hX dX2_keyOf_125 (rfl : 125 + 1 = 126) rfl ?_
    refine ge_S_X2_36_S hX dX2_keyOf_126 (rfl : 126 + 3 = 129) ?_
    refine ge_S_X2_163_R hX dX2_keyOf_129 (rfl : 129 + 3 = 132) ?_
    refine g_aload_n hX dX2_keyOf_132 (rfl : 132 + 1 = 133) rfl ?_
    refine ge_S_X2_21_S hX dX2_keyOf_133 (rfl : 133 + 3 = 136) ?_
    refine g_iload_n hX dX2_keyOf_136 (rfl : 136 + 1 = 137) rfl ?_
    refine al_S_S_4 hX dX2_keyOf_137 (rfl : 137 + 1 = 138) ?_
    refine al_S_R_2 hX dX2_keyOf_138 (rfl : 138 + 1 = 139) ?_
    refine g_ineg hX dX2_keyOf_139 (rfl : 139 + 1 = 140) ?_
    exact g_iret hX dX2_keyOf_140
  refine g_tabD (tgt := 141) hX dX2_keyOf_4 (by omega) (by decide) ?_
  exact wX2_keyOf_141 hX a0 Y
set_option maxRecDepth 100000 in
theorem wX2_firstOf_94 {X : Cx} {D : va_G} {y : ClassId × ClassId × ClassId} {q qr : Nat → Nat} (hX : OKX X cX2_firstOf RX2 (rmk 1) (some .int) D y) (v2 : Int) (Y : St × St) : GF X cX2_firstOf D (0, 0) (QI X D y (wS y q qr)) (fX2_firstOf_j94 v2 Y) 94 [some (.ref (q 0)), none, some (.int (iz v2)), none, none, none, none, none] [] (wS y q qr Y) := by
  unfold fX2_firstOf_j94
  refine g_iload_n hX dX2_firstOf_94 (rfl : 94 + 1 = 95) rfl ?_
  exact g_iret hX dX2_firstOf_95
set_option maxRecDepth 100000 in
theorem wX2_firstOf_88 {X : Cx} {D : va_G} {y : ClassId × ClassId × ClassId} {q qr : Nat → Nat} (hX : OKX X cX2_firstOf RX2 (rmk 1) (some .int) D y) {k_10 : Int → Int → Int → Int → Int → (St × St) → Option (Int × (St × St))} (hk_10 : ∀ (v1 v2 v3 v4 v5 : Int) (Y : St × St), GF X cX2_firstOf D (0, 0) (QI X D y (wS y q qr)) (k_10 v1 v2 v3 v4 v5 Y) 10 [some (.ref (q 0)), some (.int (iz v1)), some (.int (iz v2)), some (.int (iz v3)), some (.int (iz v4)), some (.int (iz v5)), none, none] [] (wS y q qr Y)) (v1 v2 v3 v4 v5 : Int) (Y : St × St) : GF X cX2_firstOf D (0, 0) (QI X D y (wS y q qr)) (fX2_firstOf_j88 k_10 v1 v2 v3 v4 v5 Y) 88 [some (.ref (q 0)), some (.int (iz v1)), some (.int (iz v2)), some (.int (iz v3)), some (.int (iz v4)), some (.int (iz v5)), none, none] [] (wS y q qr Y) := by
  unfold fX2_firstOf_j88
  refine g_iinc (lv' := fun x101 => [some (.ref (q 0)), some (.int (iz v1)), some (.int (iz v2)), some (.int (iz v3)), some (.int (iz v4)), some (.int (iz x101)), none, none]) hX dX2_firstOf_88 (rfl : 88 + 3 = 91) rfl (fun _ => rfl) (fun x101 => ?_)
  refine g_goto (pc' := 10) hX dX2_firstOf_91 (by decide) ?_
  exact hk_10 v1 v2 v3 v4 x101 Y
set_option maxRecDepth 100000 in
theorem wX2_firstOf_79 {X : Cx} {D : va_G} {y : ClassId × ClassId × ClassId} {q qr : Nat → Nat} (hX : OKX X cX2_firstOf RX2 (rmk 1) (some .int) D y) {k_10 : Int → Int → Int → Int → Int → (St × St) → Option (Int × (St × St))} (hk_10 : ∀ (v1 v2 v3 v4 v5 : Int) (Y : St × St), GF X cX2_firstOf D (0, 0) (QI X D y (wS y q qr)) (k_10 v1 v2 v3 v4 v5 Y) 10 [some (.ref (q 0)), some (.int (iz v1)), some (.int (iz v2)), some (.int (iz v3)), some (.int (iz v4)), some (.int (iz v5)), none, none] [] (wS y q qr Y)) (v1 v5 v7 : Int) (Y : St × St) : GF X cX2_firstOf D (0, 0) (QI X D y (wS y q qr)) (fX2_firstOf_j79 k_10 v1 v5 v7 Y) 79 [some (.ref (q 0)), some (.int (iz v1)), none, none, none, some (.int (iz v5)), none, some (.int (iz v7))] [] (wS y q qr Y) := by
  unfold fX2_firstOf_j79
  refine g_iload hX dX2_firstOf_79 (rfl : 79 + 2 = 81) rfl ?_
  refine g_istore_n (lv' := fun x102 => [some (.ref (q 0)), some (.int (iz v1)), some (.int (iz x102)), none, none, some (.int (iz v5)), none, some (.int (iz v7))]) hX dX2_firstOf_81 (rfl : 81 + 1 = 82) rfl (fun _ => rfl) (fun x102 => ?_)
  refine g_iload hX dX2_firstOf_82 (rfl : 82 + 2 = 84) rfl ?_
  refine g_istore_n (lv' := fun x103 => [some (.ref (q 0)), some (.int (iz v1)), some (.int (iz x102)), some (.int (iz x103)), none, some (.int (iz v5)), none, some (.int (iz v7))]) hX dX2_firstOf_84 (rfl : 84 + 1 = 85) rfl (fun _ => rfl) (fun x103 => ?_)
  refine g_iconst hX dX2_firstOf_85 (rfl : 85 + 1 = 86) ?_
  refine g_istore (lv' := fun x104 => [some (.ref (q 0)), some (.int (iz v1)), some (.int (iz x102)), some (.int (iz x103)), some (.int (iz x104)), some (.int (iz v5)), none, some (.int (iz v7))]) hX dX2_firstOf_86 (rfl : 86 + 2 = 88) rfl (fun _ => rfl) (fun x104 => ?_)
  refine g_drop (lv' := [some (.ref (q 0)), some (.int (iz v1)), some (.int (iz x102)), some (.int (iz x103)), some (.int (iz x104)), some (.int (iz v5)), none, none]) 7 rfl ?_
  exact wX2_firstOf_88 hX hk_10 v1 x102 x103 x104 v5 Y
set_option maxRecDepth 100000 in
theorem wX2_firstOf_42 {X : Cx} {D : va_G} {y : ClassId × ClassId × ClassId} {q qr : Nat → Nat} (hX : OKX X cX2_firstOf RX2 (rmk 1) (some .int) D y) {k_10 : Int → Int → Int → Int → Int → (St × St) → Option (Int × (St × St))} (hk_10 : ∀ (v1 v2 v3 v4 v5 : Int) (Y : St × St), GF X cX2_firstOf D (0, 0) (QI X D y (wS y q qr)) (k_10 v1 v2 v3 v4 v5 Y) 10 [some (.ref (q 0)), some (.int (iz v1)), some (.int (iz v2)), some (.int (iz v3)), some (.int (iz v4)), some (.int (iz v5)), none, none] [] (wS y q qr Y)) (v1 v2 v3 v4 v5 s0 : Int) (Y : St × St) : GF X cX2_firstOf D (0, 0) (QI X D y (wS y q qr)) (fX2_firstOf_j42 k_10 v1 v2 v3 v4 v5 s0 Y) 42 [some (.ref (q 0)), some (.int (iz v1)), some (.int (iz v2)), some (.int (iz v3)), some (.int (iz v4)), some (.int (iz v5)), none, none] [.int (iz s0)] (wS y q qr Y) := by
  unfold fX2_firstOf_j42
  refine g_istore (lv' := fun x105 => [some (.ref (q 0)), some (.int (iz v1)), some (.int (iz v2)), some (.int (iz v3)), some (.int (iz v4)), some (.int (iz v5)), some (.int (iz x105)), none]) hX dX2_firstOf_42 (rfl : 42 + 2 = 44) rfl (fun _ => rfl) (fun x105 => ?_)
  refine g_aload_n hX dX2_firstOf_44 (rfl : 44 + 1 = 45) rfl ?_
  refine ge_S_X2_9_S hX dX2_firstOf_45 (rfl : 45 + 3 = 48) ?_
  refine g_iload hX dX2_firstOf_48 (rfl : 48 + 2 = 50) rfl ?_
  refine al_S_S_1 hX dX2_firstOf_50 (rfl : 50 + 1 = 51) ?_
  refine g_iload_n hX dX2_firstOf_51 (rfl : 51 + 1 = 52) rfl ?_
  refine g_icmp_ne (tgt := 88) hX dX2_firstOf_52 (by decide) (rfl : 52 + 3 = 55) ?_ ?_
  · refine g_drop (lv' := [some (.ref (q 0)), some (.int (iz v1)), some (.int (iz v2)), some (.int (iz v3)), some (.int (iz v4)), some (.int (iz v5)), none, none]) 6 rfl ?_
    exact wX2_firstOf_88 hX hk_10 v1 v2 v3 v4 v5 Y
  · refine g_iload hX dX2_firstOf_55 (rfl : 55 + 2 = 57) rfl ?_
    refine g_if_ne (tgt := 88) hX dX2_firstOf_57 (by decide) (rfl : 57 + 3 = 60) ?_ ?_
    · refine g_drop (lv' := [some (.ref (q 0)), some (.int (iz v1)), some (.int (iz v2)), some (.int (iz v3)), some (.int (iz v4)), some (.int (iz v5)), none, none]) 6 rfl ?_
      exact wX2_firstOf_88 hX hk_10 v1 v2 v3 v4 v5 Y
    · refine g_aload_n hX dX2_firstOf_60 (rfl : 60 + 1 = 61) rfl ?_
      refine g_iload hX dX2_firstOf_61 (rfl : 61 + 2 = 63) rfl ?_
      refine ci_SS hX (kX2_keyOf _ _ _ (q) (qr) _ _) mw_X2_160 (by decide) rfl rfl (Nat.le_of_ble_eq_true rfl) dX2_firstOf_63 (rfl : 63 + 3 = 66) (fun r107 Y106 => ?_)
      refine g_istore (lv' := fun x108 => [some (.ref (q 0)), some (.int (iz v1)), some (.int (iz v2)), some (.int (iz v3)), some (.int (iz v4)), some (.int (iz v5)), some (.int (iz x105)), some (.int (iz x108))]) hX dX2_firstOf_66 (rfl : 66 + 2 = 68) rfl (fun _ => rfl) (fun x108 => ?_)
      refine g_iload hX dX2_firstOf_68 (rfl : 68 + 2 = 70) rfl ?_
      refine g_if_eq (tgt := 79) hX dX2_firstOf_70 (by decide) (rfl : 70 + 3 = 73) ?_ ?_
      · refine g_drop (lv' := [some (.ref (q 0)), some (.int (iz v1)), none, some (.int (iz v3)), some (.int (iz v4)), some (.int (iz v5)), some (.int (iz x105)), some (.int (iz x108))]) 2 rfl ?_
        refine g_drop (lv' := [some (.ref (q 0)), some (.int (iz v1)), none, none, some (.int (iz v4)), some (.int (iz v5)), some (.int (iz x105)), some (.int (iz x108))]) 3 rfl ?_
        refine g_drop (lv' := [some (.ref (q 0)), some (.int (iz v1)), none, none, none, some (.int (iz v5)), some (.int (iz x105)), some (.int (iz x108))]) 4 rfl ?_
        refine g_drop (lv' := [some (.ref (q 0)), some (.int (iz v1)), none, none, none, some (.int (iz v5)), none, some (.int (iz x108))]) 6 rfl ?_
        exact wX2_firstOf_79 hX hk_10 v1 v5 x108 Y106
      · refine g_iload hX dX2_firstOf_73 (rfl : 73 + 2 = 75) rfl ?_
        refine g_iload_n hX dX2_firstOf_75 (rfl : 75 + 1 = 76) rfl ?_
        refine g_icmp_ge (tgt := 88) hX dX2_firstOf_76 (by decide) (rfl : 76 + 3 = 79) ?_ ?_
        · refine g_drop (lv' := [some (.ref (q 0)), some (.int (iz v1)), some (.int (iz v2)), some (.int (iz v3)), some (.int (iz v4)), some (.int (iz v5)), none, some (.int (iz x108))]) 6 rfl ?_
          refine g_drop (lv' := [some (.ref (q 0)), some (.int (iz v1)), some (.int (iz v2)), some (.int (iz v3)), some (.int (iz v4)), some (.int (iz v5)), none, none]) 7 rfl ?_
          exact wX2_firstOf_88 hX hk_10 v1 v2 v3 v4 v5 Y106
        · refine g_drop (lv' := [some (.ref (q 0)), some (.int (iz v1)), none, some (.int (iz v3)), some (.int (iz v4)), some (.int (iz v5)), some (.int (iz x105)), some (.int (iz x108))]) 2 rfl ?_
          refine g_drop (lv' := [some (.ref (q 0)), some (.int (iz v1)), none, none, some (.int (iz v4)), some (.int (iz v5)), some (.int (iz x105)), some (.int (iz x108))]) 3 rfl ?_
          refine g_drop (lv' := [some (.ref (q 0)), some (.int (iz v1)), none, none, none, some (.int (iz v5)), some (.int (iz x105)), some (.int (iz x108))]) 4 rfl ?_
          refine g_drop (lv' := [some (.ref (q 0)), some (.int (iz v1)), none, none, none, some (.int (iz v5)), none, some (.int (iz x108))]) 6 rfl ?_
          exact wX2_firstOf_79 hX hk_10 v1 v5 x108 Y106
set_option maxRecDepth 100000 in
theorem wX2_firstOf_41 {X : Cx} {D : va_G} {y : ClassId × ClassId × ClassId} {q qr : Nat → Nat} (hX : OKX X cX2_firstOf RX2 (rmk 1) (some .int) D y) {k_10 : Int → Int → Int → Int → Int → (St × St) → Option (Int × (St × St))} (hk_10 : ∀ (v1 v2 v3 v4 v5 : Int) (Y : St × St), GF X cX2_firstOf D (0, 0) (QI X D y (wS y q qr)) (k_10 v1 v2 v3 v4 v5 Y) 10 [some (.ref (q 0)), some (.int (iz v1)), some (.int (iz v2)), some (.int (iz v3)), some (.int (iz v4)), some (.int (iz v5)), none, none] [] (wS y q qr Y)) (v1 v2 v3 v4 v5 : Int) (Y : St × St) : GF X cX2_firstOf D (0, 0) (QI X D y (wS y q qr)) (fX2_firstOf_j41 k_10 v1 v2 v3 v4 v5 Y) 41 [some (.ref (q 0)), some (.int (iz v1)), some (.int (iz v2)), some (.int (iz v3)), some (.int (iz v4)), some (.int (iz v5)), none, none] [] (wS y q qr Y) := by
  unfold fX2_firstOf_j41
  refine g_iconst hX dX2_firstOf_41 (rfl : 41 + 1 = 42) ?_
  exact wX2_firstOf_42 hX hk_10 v1 v2 v3 v4 v5 0 Y
set_option maxRecDepth 100000 in
theorem wX2_firstOf_10 {X : Cx} {D : va_G} {y : ClassId × ClassId × ClassId} {q qr : Nat → Nat} (hX : OKX X cX2_firstOf RX2 (rmk 1) (some .int) D y) : ∀ (n : Nat) (v1 v2 v3 v4 v5 : Int) (Y : St × St), GF X cX2_firstOf D (0, 0) (QI X D y (wS y q qr)) (fX2_firstOf_l10 n v1 v2 v3 v4 v5 Y) 10 [some (.ref (q 0)), some (.int (iz v1)), some (.int (iz v2)), some (.int (iz v3)), some (.int (iz v4)), some (.int (iz v5)), none, none] [] (wS y q qr Y) := by
  intro n
  induction n with
  | zero => intro v1 v2 v3 v4 v5 Y; exact g_none
  | succ n hk_10 =>
    intro v1 v2 v3 v4 v5 Y
    unfold fX2_firstOf_l10
    refine g_iload hX dX2_firstOf_10 (rfl : 10 + 2 = 12) rfl ?_
    refine g_bipush hX dX2_firstOf_12 (by decide) (rfl : 12 + 2 = 14) ?_
    refine g_icmp_ge (tgt := 94) hX dX2_firstOf_14 (by decide) (rfl : 14 + 3 = 17) ?_ ?_
    · refine g_drop (lv' := [some (.ref (q 0)), none, some (.int (iz v2)), some (.int (iz v3)), some (.int (iz v4)), some (.int (iz v5)), none, none]) 1 rfl ?_
      refine g_drop (lv' := [some (.ref (q 0)), none, some (.int (iz v2)), none, some (.int (iz v4)), some (.int (iz v5)), none, none]) 3 rfl ?_
      refine g_drop (lv' := [some (.ref (q 0)), none, some (.int (iz v2)), none, none, some (.int (iz v5)), none, none]) 4 rfl ?_
      refine g_drop (lv' := [some (.ref (q 0)), none, some (.int (iz v2)), none, none, none, none, none]) 5 rfl ?_
      exact wX2_firstOf_94 hX v2 Y
    · refine g_aload_n hX dX2_firstOf_17 (rfl : 17 + 1 = 18) rfl ?_
      refine ge_S_X2_44_S hX dX2_firstOf_18 (rfl : 18 + 3 = 21) ?_
      refine g_iconst hX dX2_firstOf_21 (rfl : 21 + 1 = 22) ?_
      refine g_icmp_ne (tgt := 41) hX dX2_firstOf_22 (by decide) (rfl : 22 + 3 = 25) ?_ ?_
      · exact wX2_firstOf_41 hX hk_10 v1 v2 v3 v4 v5 Y
      · refine g_aload_n hX dX2_firstOf_25 (rfl : 25 + 1 = 26) rfl ?_
        refine ge_S_X2_56_S hX dX2_firstOf_26 (rfl : 26 + 3 = 29) ?_
        refine g_iconst hX dX2_firstOf_29 (rfl : 29 + 1 = 30) ?_
        refine g_iload hX dX2_firstOf_30 (rfl : 30 + 2 = 32) rfl ?_
        refine g_ishl hX dX2_firstOf_32 (rfl : 32 + 1 = 33) ?_
        refine g_iand hX dX2_firstOf_33 (rfl : 33 + 1 = 34) ?_
        refine g_if_eq (tgt := 41) hX dX2_firstOf_34 (by decide) (rfl : 34 + 3 = 37) ?_ ?_
        · exact wX2_firstOf_41 hX hk_10 v1 v2 v3 v4 v5 Y
        · refine g_iconst hX dX2_firstOf_37 (rfl : 37 + 1 = 38) ?_
          refine g_goto (pc' := 42) hX dX2_firstOf_38 (by decide) ?_
          exact wX2_firstOf_42 hX hk_10 v1 v2 v3 v4 v5 1 Y
set_option maxRecDepth 100000 in
theorem kX2_firstOf (l : Launch) (D : va_G) (y : ClassId × ClassId × ClassId) (q qr : Nat → Nat) (Y : St × St) (a0 : Int) : CtI l D y yX2_firstOf cX2_firstOf 8 (some .int) (rmk 1) [.ref (q 0), .int (iz a0)] (wS y q qr) Y (fX2_firstOf Y a0) := by
  refine ctI_of (own := RX2) rfl (by decide) (cat1 rfl) rfl (fun X hl hX => ?_)
  subst hl
  show GF X cX2_firstOf D (0, 0) (QI X D y (wS y q qr)) (fX2_firstOf Y a0) 0 [some (.ref (q 0)), some (.int (iz a0)), none, none, none, none, none, none] [] (wS y q qr Y)
  unfold fX2_firstOf
  refine g_iconst hX dX2_firstOf_0 (rfl : 0 + 1 = 1) ?_
  refine g_istore_n (lv' := fun x1 => [some (.ref (q 0)), some (.int (iz a0)), some (.int (iz x1)), none, none, none, none, none]) hX dX2_firstOf_1 (rfl : 1 + 1 = 2) rfl (fun _ => rfl) (fun x1 => ?_)
  refine g_iconst hX dX2_firstOf_2 (rfl : 2 + 1 = 3) ?_
  refine g_istore_n (lv' := fun x2 => [some (.ref (q 0)), some (.int (iz a0)), some (.int (iz x1)), some (.int (iz x2)), none, none, none, none]) hX dX2_firstOf_3 (rfl : 3 + 1 = 4) rfl (fun _ => rfl) (fun x2 => ?_)
  refine g_iconst hX dX2_firstOf_4 (rfl : 4 + 1 = 5) ?_
  refine g_istore (lv' := fun x3 => [some (.ref (q 0)), some (.int (iz a0)), some (.int (iz x1)), some (.int (iz x2)), some (.int (iz x3)), none, none, none]) hX dX2_firstOf_5 (rfl : 5 + 2 = 7) rfl (fun _ => rfl) (fun x3 => ?_)
  refine g_iconst hX dX2_firstOf_7 (rfl : 7 + 1 = 8) ?_
  refine g_istore (lv' := fun x4 => [some (.ref (q 0)), some (.int (iz a0)), some (.int (iz x1)), some (.int (iz x2)), some (.int (iz x3)), some (.int (iz x4)), none, none]) hX dX2_firstOf_8 (rfl : 8 + 2 = 10) rfl (fun _ => rfl) (fun x4 => ?_)
  exact wX2_firstOf_10 hX FU a0 x1 x2 x3 x4 Y
set_option maxRecDepth 100000 in
theorem wX2_moveHandOn_24 {X : Cx} {D : va_G} {y : ClassId × ClassId × ClassId} {q qr : Nat → Nat} (hX : OKX X cX2_moveHandOn RX2 (rmk 0) none D y) (s0 : Int) (Y : St × St) : GF X cX2_moveHandOn D (0, 0) (QV X D y (wS y q qr)) (fX2_moveHandOn_j24 s0 Y) 24 [some (.ref (q 0))] [.int (iz s0), .ref (q 0)] (wS y q qr Y) := by
  unfold fX2_moveHandOn_j24
  refine pu_S_X2_62_S hX dX2_moveHandOn_24 (rfl : 24 + 3 = 27) (fun Y101 => ?_)
  exact g_vret hX dX2_moveHandOn_27
set_option maxRecDepth 100000 in
theorem kX2_moveHandOn (l : Launch) (D : va_G) (y : ClassId × ClassId × ClassId) (q qr : Nat → Nat) (Y : St × St) : CtV l D y yX2_moveHandOn cX2_moveHandOn 1 (rmk 0) [.ref (q 0)] (wS y q qr) Y (fX2_moveHandOn Y) := by
  refine ctV_of (own := RX2) rfl (by decide) (cat1 rfl) rfl (fun X hl hX => ?_)
  subst hl
  show GF X cX2_moveHandOn D (0, 0) (QV X D y (wS y q qr)) (fX2_moveHandOn Y) 0 [some (.ref (q 0))] [] (wS y q qr Y)
  unfold fX2_moveHandOn
  refine g_aload_n hX dX2_moveHandOn_0 (rfl : 0 + 1 = 1) rfl ?_
  refine g_aload_n hX dX2_moveHandOn_1 (rfl : 1 + 1 = 2) rfl ?_
  refine ge_S_X2_62_S hX dX2_moveHandOn_2 (rfl : 2 + 3 = 5) ?_
  refine g_iconst hX dX2_moveHandOn_5 (rfl : 5 + 1 = 6) ?_
  refine g_iadd hX dX2_moveHandOn_6 (rfl : 6 + 1 = 7) ?_
  refine g_aload_n hX dX2_moveHandOn_7 (rfl : 7 + 1 = 8) rfl ?_
  refine ge_S_X2_40_S hX dX2_moveHandOn_8 (rfl : 8 + 3 = 11) ?_
  refine g_icmp_ge (tgt := 23) hX dX2_moveHandOn_11 (by decide) (rfl : 11 + 3 = 14) ?_ ?_
  · refine g_iconst hX dX2_moveHandOn_23 (rfl : 23 + 1 = 24) ?_
    exact wX2_moveHandOn_24 hX 0 Y
  · refine g_aload_n hX dX2_moveHandOn_14 (rfl : 14 + 1 = 15) rfl ?_
    refine ge_S_X2_62_S hX dX2_moveHandOn_15 (rfl : 15 + 3 = 18) ?_
    refine g_iconst hX dX2_moveHandOn_18 (rfl : 18 + 1 = 19) ?_
    refine g_iadd hX dX2_moveHandOn_19 (rfl : 19 + 1 = 20) ?_
    refine g_goto (pc' := 24) hX dX2_moveHandOn_20 (by decide) ?_
    exact wX2_moveHandOn_24 hX (((Y.1.1 14) + 1)) Y
set_option maxRecDepth 100000 in
theorem wX2_turnHand_61 {X : Cx} {D : va_G} {y : ClassId × ClassId × ClassId} {q qr : Nat → Nat} (hX : OKX X cX2_turnHand RX2 (rmk 1) (some .int) D y) (Y : St × St) : GF X cX2_turnHand D (0, 0) (QI X D y (wS y q qr)) (fX2_turnHand_j61  Y) 61 [some (.ref (q 0)), none] [] (wS y q qr Y) := by
  unfold fX2_turnHand_j61
  refine g_aload_n hX dX2_turnHand_61 (rfl : 61 + 1 = 62) rfl ?_
  refine ge_S_X2_33_S hX dX2_turnHand_62 (rfl : 62 + 3 = 65) ?_
  refine g_aload_n hX dX2_turnHand_65 (rfl : 65 + 1 = 66) rfl ?_
  refine ge_S_X2_62_S hX dX2_turnHand_66 (rfl : 66 + 3 = 69) ?_
  refine al_S_S_8 hX dX2_turnHand_69 (rfl : 69 + 1 = 70) ?_
  refine g_istore_n (lv' := fun x101 => [some (.ref (q 0)), some (.int (iz x101))]) hX dX2_turnHand_70 (rfl : 70 + 1 = 71) rfl (fun _ => rfl) (fun x101 => ?_)
  refine g_aload_n hX dX2_turnHand_71 (rfl : 71 + 1 = 72) rfl ?_
  refine cv_SS hX (kX2_moveHandOn _ _ _ (q) (qr) _) mw_X2_157 (by decide) rfl rfl (Nat.le_of_ble_eq_true rfl) dX2_turnHand_72 (rfl : 72 + 3 = 75) (fun Y102 => ?_)
  refine g_iload_n hX dX2_turnHand_75 (rfl : 75 + 1 = 76) rfl ?_
  exact g_iret hX dX2_turnHand_76
set_option maxRecDepth 100000 in
theorem wX2_turnHand_2 {X : Cx} {D : va_G} {y : ClassId × ClassId × ClassId} {q qr : Nat → Nat} (hX : OKX X cX2_turnHand RX2 (rmk 1) (some .int) D y) : ∀ (n : Nat) (v1 : Int) (Y : St × St), GF X cX2_turnHand D (0, 0) (QI X D y (wS y q qr)) (fX2_turnHand_l2 n v1 Y) 2 [some (.ref (q 0)), some (.int (iz v1))] [] (wS y q qr Y) := by
  intro n
  induction n with
  | zero => intro v1 Y; exact g_none
  | succ n hk_2 =>
    intro v1 Y
    unfold fX2_turnHand_l2
    refine g_iload_n hX dX2_turnHand_2 (rfl : 2 + 1 = 3) rfl ?_
    refine g_aload_n hX dX2_turnHand_3 (rfl : 3 + 1 = 4) rfl ?_
    refine ge_S_X2_40_S hX dX2_turnHand_4 (rfl : 4 + 3 = 7) ?_
    refine g_icmp_ge (tgt := 61) hX dX2_turnHand_7 (by decide) (rfl : 7 + 3 = 10) ?_ ?_
    · refine g_drop (lv' := [some (.ref (q 0)), none]) 1 rfl ?_
      exact wX2_turnHand_61 hX  Y
    · refine g_aload_n hX dX2_turnHand_10 (rfl : 10 + 1 = 11) rfl ?_
      refine ge_S_X2_56_S hX dX2_turnHand_11 (rfl : 11 + 3 = 14) ?_
      refine g_iconst hX dX2_turnHand_14 (rfl : 14 + 1 = 15) ?_
      refine g_aload_n hX dX2_turnHand_15 (rfl : 15 + 1 = 16) rfl ?_
      refine ge_S_X2_33_S hX dX2_turnHand_16 (rfl : 16 + 3 = 19) ?_
      refine g_aload_n hX dX2_turnHand_19 (rfl : 19 + 1 = 20) rfl ?_
      refine ge_S_X2_62_S hX dX2_turnHand_20 (rfl : 20 + 3 = 23) ?_
      refine al_S_S_8 hX dX2_turnHand_23 (rfl : 23 + 1 = 24) ?_
      refine g_ishl hX dX2_turnHand_24 (rfl : 24 + 1 = 25) ?_
      refine g_iand hX dX2_turnHand_25 (rfl : 25 + 1 = 26) ?_
      refine g_if_eq (tgt := 61) hX dX2_turnHand_26 (by decide) (rfl : 26 + 3 = 29) ?_ ?_
      · refine g_drop (lv' := [some (.ref (q 0)), none]) 1 rfl ?_
        exact wX2_turnHand_61 hX  Y
      · refine g_aload_n hX dX2_turnHand_29 (rfl : 29 + 1 = 30) rfl ?_
        refine g_dup hX dX2_turnHand_30 rfl (rfl : 30 + 1 = 31) ?_
        refine ge_S_X2_56_S hX dX2_turnHand_31 (rfl : 31 + 3 = 34) ?_
        refine g_iconst hX dX2_turnHand_34 (rfl : 34 + 1 = 35) ?_
        refine g_aload_n hX dX2_turnHand_35 (rfl : 35 + 1 = 36) rfl ?_
        refine ge_S_X2_33_S hX dX2_turnHand_36 (rfl : 36 + 3 = 39) ?_
        refine g_aload_n hX dX2_turnHand_39 (rfl : 39 + 1 = 40) rfl ?_
        refine ge_S_X2_62_S hX dX2_turnHand_40 (rfl : 40 + 3 = 43) ?_
        refine al_S_S_8 hX dX2_turnHand_43 (rfl : 43 + 1 = 44) ?_
        refine g_ishl hX dX2_turnHand_44 (rfl : 44 + 1 = 45) ?_
        refine g_iconst hX dX2_turnHand_45 (rfl : 45 + 1 = 46) ?_
        refine g_ixor hX dX2_turnHand_46 (rfl : 46 + 1 = 47) ?_
        refine g_iand hX dX2_turnHand_47 (rfl : 47 + 1 = 48) ?_
        refine pu_S_X2_56_S hX dX2_turnHand_48 (rfl : 48 + 3 = 51) (fun Y103 => ?_)
        refine g_aload_n hX dX2_turnHand_51 (rfl : 51 + 1 = 52) rfl ?_
        refine cv_SS hX (kX2_moveHandOn _ _ _ (q) (qr) _) mw_X2_157 (by decide) rfl rfl (Nat.le_of_ble_eq_true rfl) dX2_turnHand_52 (rfl : 52 + 3 = 55) (fun Y104 => ?_)
        refine g_iinc (lv' := fun x105 => [some (.ref (q 0)), some (.int (iz x105))]) hX dX2_turnHand_55 (rfl : 55 + 3 = 58) rfl (fun _ => rfl) (fun x105 => ?_)
        refine g_goto (pc' := 2) hX dX2_turnHand_58 (by decide) ?_
        exact hk_2 x105 Y104
set_option maxRecDepth 100000 in
theorem kX2_turnHand (l : Launch) (D : va_G) (y : ClassId × ClassId × ClassId) (q qr : Nat → Nat) (Y : St × St) : CtI l D y yX2_turnHand cX2_turnHand 2 (some .int) (rmk 1) [.ref (q 0)] (wS y q qr) Y (fX2_turnHand Y) := by
  refine ctI_of (own := RX2) rfl (by decide) (cat1 rfl) rfl (fun X hl hX => ?_)
  subst hl
  show GF X cX2_turnHand D (0, 0) (QI X D y (wS y q qr)) (fX2_turnHand Y) 0 [some (.ref (q 0)), none] [] (wS y q qr Y)
  unfold fX2_turnHand
  refine g_iconst hX dX2_turnHand_0 (rfl : 0 + 1 = 1) ?_
  refine g_istore_n (lv' := fun x1 => [some (.ref (q 0)), some (.int (iz x1))]) hX dX2_turnHand_1 (rfl : 1 + 1 = 2) rfl (fun _ => rfl) (fun x1 => ?_)
  exact wX2_turnHand_2 hX FU x1 Y
set_option maxRecDepth 100000 in
theorem wX2_partThatLoses_24 {X : Cx} {D : va_G} {y : ClassId × ClassId × ClassId} {q qr : Nat → Nat} (hX : OKX X cX2_partThatLoses RX2 (rmk 0) (some .int) D y) (s0 : Int) (Y : St × St) : GF X cX2_partThatLoses D (0, 0) (QI X D y (wS y q qr)) (fX2_partThatLoses_j24 s0 Y) 24 [some (.ref (q 0)), none] [.int (iz s0)] (wS y q qr Y) := by
  unfold fX2_partThatLoses_j24
  exact g_iret hX dX2_partThatLoses_24
set_option maxRecDepth 100000 in
theorem wX2_partThatLoses_19 {X : Cx} {D : va_G} {y : ClassId × ClassId × ClassId} {q qr : Nat → Nat} (hX : OKX X cX2_partThatLoses RX2 (rmk 0) (some .int) D y) (Y : St × St) : GF X cX2_partThatLoses D (0, 0) (QI X D y (wS y q qr)) (fX2_partThatLoses_j19  Y) 19 [some (.ref (q 0)), none] [] (wS y q qr Y) := by
  unfold fX2_partThatLoses_j19
  refine g_iconst hX dX2_partThatLoses_19 (rfl : 19 + 1 = 20) ?_
  refine g_goto (pc' := 24) hX dX2_partThatLoses_20 (by decide) ?_
  exact wX2_partThatLoses_24 hX 1 Y
set_option maxRecDepth 100000 in
theorem kX2_partThatLoses (l : Launch) (D : va_G) (y : ClassId × ClassId × ClassId) (q qr : Nat → Nat) (Y : St × St) (a0 : Int) : CtI l D y yX2_partThatLoses cX2_partThatLoses 2 (some .int) (rmk 0) [.ref (q 0), .int (iz a0)] (wS y q qr) Y (fX2_partThatLoses Y a0) := by
  refine ctI_of (own := RX2) rfl (by decide) (cat1 rfl) rfl (fun X hl hX => ?_)
  subst hl
  show GF X cX2_partThatLoses D (0, 0) (QI X D y (wS y q qr)) (fX2_partThatLoses Y a0) 0 [some (.ref (q 0)), some (.int (iz a0))] [] (wS y q qr Y)
  unfold fX2_partThatLoses
  refine g_aload_n hX dX2_partThatLoses_0 (rfl : 0 + 1 = 1) rfl ?_
  refine ge_S_X2_15_S hX dX2_partThatLoses_1 (rfl : 1 + 3 = 4) ?_
  refine g_iconst hX dX2_partThatLoses_4 (rfl : 4 + 1 = 5) ?_
  refine al_S_S_2 hX dX2_partThatLoses_5 (rfl : 5 + 1 = 6) ?_
  refine g_iload_n hX dX2_partThatLoses_6 (rfl : 6 + 1 = 7) rfl ?_
  refine g_icmp_gt (tgt := 19) hX dX2_partThatLoses_7 (by decide) (rfl : 7 + 3 = 10) ?_ ?_
  · refine g_drop (lv' := [some (.ref (q 0)), none]) 1 rfl ?_
    exact wX2_partThatLoses_19 hX  Y
  · refine g_aload_n hX dX2_partThatLoses_10 (rfl : 10 + 1 = 11) rfl ?_
    refine ge_S_X2_15_S hX dX2_partThatLoses_11 (rfl : 11 + 3 = 14) ?_
    refine g_iconst hX dX2_partThatLoses_14 (rfl : 14 + 1 = 15) ?_
    refine al_S_S_2 hX dX2_partThatLoses_15 (rfl : 15 + 1 = 16) ?_
    refine g_if_ne (tgt := 23) hX dX2_partThatLoses_16 (by decide) (rfl : 16 + 3 = 19) ?_ ?_
    · refine g_iconst hX dX2_partThatLoses_23 (rfl : 23 + 1 = 24) ?_
      refine g_drop (lv' := [some (.ref (q 0)), none]) 1 rfl ?_
      exact wX2_partThatLoses_24 hX 2 Y
    · refine g_drop (lv' := [some (.ref (q 0)), none]) 1 rfl ?_
      exact wX2_partThatLoses_19 hX  Y
set_option maxRecDepth 100000 in
theorem wX2_chooseGoing_83 {X : Cx} {D : va_G} {y : ClassId × ClassId × ClassId} {q qr : Nat → Nat} (hX : OKX X cX2_chooseGoing RX2 (rmk 2) (some .int) D y) (Y : St × St) : GF X cX2_chooseGoing D (0, 0) (QI X D y (wS y q qr)) (fX2_chooseGoing_j83  Y) 83 [some (.ref (q 0))] [] (wS y q qr Y) := by
  unfold fX2_chooseGoing_j83
  refine g_aload_n hX dX2_chooseGoing_83 (rfl : 83 + 1 = 84) rfl ?_
  refine g_iconst hX dX2_chooseGoing_84 (rfl : 84 + 1 = 85) ?_
  refine ci_SS hX (kX2_firstOf _ _ _ (q) (qr) _ _) mw_X2_143 (by decide) rfl rfl (Nat.le_of_ble_eq_true rfl) dX2_chooseGoing_85 (rfl : 85 + 3 = 88) (fun r102 Y101 => ?_)
  exact g_iret hX dX2_chooseGoing_88
set_option maxRecDepth 100000 in
theorem kX2_chooseGoing (l : Launch) (D : va_G) (y : ClassId × ClassId × ClassId) (q qr : Nat → Nat) (Y : St × St) : CtI l D y yX2_chooseGoing cX2_chooseGoing 1 (some .int) (rmk 2) [.ref (q 0)] (wS y q qr) Y (fX2_chooseGoing Y) := by
  refine ctI_of (own := RX2) rfl (by decide) (cat1 rfl) rfl (fun X hl hX => ?_)
  subst hl
  show GF X cX2_chooseGoing D (0, 0) (QI X D y (wS y q qr)) (fX2_chooseGoing Y) 0 [some (.ref (q 0))] [] (wS y q qr Y)
  unfold fX2_chooseGoing
  refine g_aload_n hX dX2_chooseGoing_0 (rfl : 0 + 1 = 1) rfl ?_
  refine ge_S_X2_44_S hX dX2_chooseGoing_1 (rfl : 1 + 3 = 4) ?_
  refine g_ite (fun c1 => ?_) (fun c1 => ?_)
  · refine g_tab (tgt := 40) hX c1 dX2_chooseGoing_4 (by decide) (by decide) rfl (by decide) ?_
    refine g_aload_n hX dX2_chooseGoing_40 (rfl : 40 + 1 = 41) rfl ?_
    refine cv_SS hX (kX2_endFullRound _ _ _ (q) (qr) _) mw_X2_140 (by decide) rfl rfl (Nat.le_of_ble_eq_true rfl) dX2_chooseGoing_41 (rfl : 41 + 3 = 44) (fun Y2 => ?_)
    refine g_aload_n hX dX2_chooseGoing_44 (rfl : 44 + 1 = 45) rfl ?_
    refine g_iconst hX dX2_chooseGoing_45 (rfl : 45 + 1 = 46) ?_
    refine ci_SS hX (kX2_firstOf _ _ _ (q) (qr) _ _) mw_X2_143 (by decide) rfl rfl (Nat.le_of_ble_eq_true rfl) dX2_chooseGoing_46 (rfl : 46 + 3 = 49) (fun r4 Y3 => ?_)
    exact g_iret hX dX2_chooseGoing_49
  refine g_ite (fun c5 => ?_) (fun c5 => ?_)
  · refine g_tab (tgt := 50) hX c5 dX2_chooseGoing_4 (by decide) (by decide) rfl (by decide) ?_
    refine g_aload_n hX dX2_chooseGoing_50 (rfl : 50 + 1 = 51) rfl ?_
    refine ci_SS hX (kX2_turnHand _ _ _ (q) (qr) _) mw_X2_146 (by decide) rfl rfl (Nat.le_of_ble_eq_true rfl) dX2_chooseGoing_51 (rfl : 51 + 3 = 54) (fun r7 Y6 => ?_)
    exact g_iret hX dX2_chooseGoing_54
  refine g_ite (fun c8 => ?_) (fun c8 => ?_)
  · refine g_tab (tgt := 83) hX c8 dX2_chooseGoing_4 (by decide) (by decide) rfl (by decide) ?_
    exact wX2_chooseGoing_83 hX  Y
  refine g_ite (fun c9 => ?_) (fun c9 => ?_)
  · refine g_tab (tgt := 55) hX c9 dX2_chooseGoing_4 (by decide) (by decide) rfl (by decide) ?_
    refine g_aload_n hX dX2_chooseGoing_55 (rfl : 55 + 1 = 56) rfl ?_
    refine g_aload_n hX dX2_chooseGoing_56 (rfl : 56 + 1 = 57) rfl ?_
    refine g_aload_n hX dX2_chooseGoing_57 (rfl : 57 + 1 = 58) rfl ?_
    refine ge_S_X2_40_S hX dX2_chooseGoing_58 (rfl : 58 + 3 = 61) ?_
    refine g_iconst hX dX2_chooseGoing_61 (rfl : 61 + 1 = 62) ?_
    refine g_idiv hX dX2_chooseGoing_62 (rfl : 62 + 1 = 63) ?_
    refine ci_SS hX (kX2_partThatLoses _ _ _ (q) (qr) _ _) mw_X2_149 (by decide) rfl rfl (Nat.le_of_ble_eq_true rfl) dX2_chooseGoing_63 (rfl : 63 + 3 = 66) (fun r11 Y10 => ?_)
    refine ci_SS hX (kX2_firstOf _ _ _ (q) (qr) _ _) mw_X2_143 (by decide) rfl rfl (Nat.le_of_ble_eq_true rfl) dX2_chooseGoing_66 (rfl : 66 + 3 = 69) (fun r13 Y12 => ?_)
    exact g_iret hX dX2_chooseGoing_69
  refine g_ite (fun c14 => ?_) (fun c14 => ?_)
  · refine g_tab (tgt := 70) hX c14 dX2_chooseGoing_4 (by decide) (by decide) rfl (by decide) ?_
    refine g_aload_n hX dX2_chooseGoing_70 (rfl : 70 + 1 = 71) rfl ?_
    refine g_aload_n hX dX2_chooseGoing_71 (rfl : 71 + 1 = 72) rfl ?_
    refine g_aload_n hX dX2_chooseGoing_72 (rfl : 72 + 1 = 73) rfl ?_
    refine ge_S_X2_65_S hX dX2_chooseGoing_73 (rfl : 73 + 3 = 76) ?_
    refine ci_SS hX (kX2_partThatLoses _ _ _ (q) (qr) _ _) mw_X2_149 (by decide) rfl rfl (Nat.le_of_ble_eq_true rfl) dX2_chooseGoing_76 (rfl : 76 + 3 = 79) (fun r16 Y15 => ?_)
    refine ci_SS hX (kX2_firstOf _ _ _ (q) (qr) _ _) mw_X2_143 (by decide) rfl rfl (Nat.le_of_ble_eq_true rfl) dX2_chooseGoing_79 (rfl : 79 + 3 = 82) (fun r18 Y17 => ?_)
    exact g_iret hX dX2_chooseGoing_82
  refine g_tabD (tgt := 83) hX dX2_chooseGoing_4 (by omega) (by decide) ?_
  exact wX2_chooseGoing_83 hX  Y
set_option maxRecDepth 100000 in
theorem wX2_bookFor_33 {X : Cx} {D : va_G} {y : ClassId × ClassId × ClassId} {q qr : Nat → Nat} (hX : OKX X cX2_bookFor RX2 (rmk 1) (some .int) D y) (s0 : Int) (Y : St × St) : GF X cX2_bookFor D (0, 0) (QI X D y (wS y q qr)) (fX2_bookFor_j33 s0 Y) 33 [some (.ref (q 0)), none] [.int (iz s0)] (wS y q qr Y) := by
  unfold fX2_bookFor_j33
  exact g_iret hX dX2_bookFor_33
set_option maxRecDepth 100000 in
theorem wX2_bookFor_19 {X : Cx} {D : va_G} {y : ClassId × ClassId × ClassId} {q qr : Nat → Nat} (hX : OKX X cX2_bookFor RX2 (rmk 1) (some .int) D y) (Y : St × St) : GF X cX2_bookFor D (0, 0) (QI X D y (wS y q qr)) (fX2_bookFor_j19  Y) 19 [some (.ref (q 0)), none] [] (wS y q qr Y) := by
  unfold fX2_bookFor_j19
  refine g_aload_n hX dX2_bookFor_19 (rfl : 19 + 1 = 20) rfl ?_
  refine ge_S_X2_44_S hX dX2_bookFor_20 (rfl : 20 + 3 = 23) ?_
  refine g_bipush hX dX2_bookFor_23 (by decide) (rfl : 23 + 2 = 25) ?_
  refine g_icmp_ne (tgt := 32) hX dX2_bookFor_25 (by decide) (rfl : 25 + 3 = 28) ?_ ?_
  · refine g_iconst hX dX2_bookFor_32 (rfl : 32 + 1 = 33) ?_
    exact wX2_bookFor_33 hX 0 Y
  · refine g_iconst hX dX2_bookFor_28 (rfl : 28 + 1 = 29) ?_
    refine g_goto (pc' := 33) hX dX2_bookFor_29 (by decide) ?_
    exact wX2_bookFor_33 hX 4 Y
set_option maxRecDepth 100000 in
theorem kX2_bookFor (l : Launch) (D : va_G) (y : ClassId × ClassId × ClassId) (q qr : Nat → Nat) (Y : St × St) (a0 : Int) : CtI l D y yX2_bookFor cX2_bookFor 2 (some .int) (rmk 1) [.ref (q 0), .int (iz a0)] (wS y q qr) Y (fX2_bookFor Y a0) := by
  refine ctI_of (own := RX2) rfl (by decide) (cat1 rfl) rfl (fun X hl hX => ?_)
  subst hl
  show GF X cX2_bookFor D (0, 0) (QI X D y (wS y q qr)) (fX2_bookFor Y a0) 0 [some (.ref (q 0)), some (.int (iz a0))] [] (wS y q qr Y)
  unfold fX2_bookFor
  refine g_aload_n hX dX2_bookFor_0 (rfl : 0 + 1 = 1) rfl ?_
  refine ci_SS hX (kX2_hasBooks _ _ _ (q) (qr) _) mw_X2_112 (by decide) rfl rfl (Nat.le_of_ble_eq_true rfl) dX2_bookFor_1 (rfl : 1 + 3 = 4) (fun r2 Y1 => ?_)
  refine g_if_eq (tgt := 19) hX dX2_bookFor_4 (by decide) (rfl : 4 + 3 = 7) ?_ ?_
  · refine g_drop (lv' := [some (.ref (q 0)), none]) 1 rfl ?_
    exact wX2_bookFor_19 hX  Y1
  · refine g_aload_n hX dX2_bookFor_7 (rfl : 7 + 1 = 8) rfl ?_
    refine ge_S_X2_9_S hX dX2_bookFor_8 (rfl : 8 + 3 = 11) ?_
    refine g_iload_n hX dX2_bookFor_11 (rfl : 11 + 1 = 12) rfl ?_
    refine al_S_S_1 hX dX2_bookFor_12 (rfl : 12 + 1 = 13) ?_
    refine g_iconst hX dX2_bookFor_13 (rfl : 13 + 1 = 14) ?_
    refine g_icmp_ne (tgt := 19) hX dX2_bookFor_14 (by decide) (rfl : 14 + 3 = 17) ?_ ?_
    · refine g_drop (lv' := [some (.ref (q 0)), none]) 1 rfl ?_
      exact wX2_bookFor_19 hX  Y1
    · refine g_iconst hX dX2_bookFor_17 (rfl : 17 + 1 = 18) ?_
      exact g_iret hX dX2_bookFor_18
set_option maxRecDepth 100000 in
theorem wX2_takeAway_52 {X : Cx} {D : va_G} {y : ClassId × ClassId × ClassId} {q qr : Nat → Nat} (hX : OKX X cX2_takeAway RX2 (rmk 2) none D y) (v1 v2 : Int) (Y : St × St) : GF X cX2_takeAway D (0, 0) (QV X D y (wS y q qr)) (fX2_takeAway_j52 v1 v2 Y) 52 [some (.ref (q 0)), some (.int (iz v1)), some (.int (iz v2))] [] (wS y q qr Y) := by
  unfold fX2_takeAway_j52
  refine g_aload_n hX dX2_takeAway_52 (rfl : 52 + 1 = 53) rfl ?_
  refine g_iload_n hX dX2_takeAway_53 (rfl : 53 + 1 = 54) rfl ?_
  refine g_iload_n hX dX2_takeAway_54 (rfl : 54 + 1 = 55) rfl ?_
  refine cv_SS hX (kX2_move _ _ _ (q) (qr) _ _ _) mw_X2_116 (by decide) rfl rfl (Nat.le_of_ble_eq_true rfl) dX2_takeAway_55 (rfl : 55 + 3 = 58) (fun Y101 => ?_)
  exact g_vret hX dX2_takeAway_58
set_option maxRecDepth 100000 in
theorem wX2_takeAway_19 {X : Cx} {D : va_G} {y : ClassId × ClassId × ClassId} {q qr : Nat → Nat} (hX : OKX X cX2_takeAway RX2 (rmk 2) none D y) (v1 : Int) (Y : St × St) : GF X cX2_takeAway D (0, 0) (QV X D y (wS y q qr)) (fX2_takeAway_j19 v1 Y) 19 [some (.ref (q 0)), some (.int (iz v1)), none] [] (wS y q qr Y) := by
  unfold fX2_takeAway_j19
  refine g_aload_n hX dX2_takeAway_19 (rfl : 19 + 1 = 20) rfl ?_
  refine g_iload_n hX dX2_takeAway_20 (rfl : 20 + 1 = 21) rfl ?_
  refine ci_SS hX (kX2_bookFor _ _ _ (q) (qr) _ _) mw_X2_166 (by decide) rfl rfl (Nat.le_of_ble_eq_true rfl) dX2_takeAway_21 (rfl : 21 + 3 = 24) (fun r103 Y102 => ?_)
  refine g_istore_n (lv' := fun x104 => [some (.ref (q 0)), some (.int (iz v1)), some (.int (iz x104))]) hX dX2_takeAway_24 (rfl : 24 + 1 = 25) rfl (fun _ => rfl) (fun x104 => ?_)
  refine g_iload_n hX dX2_takeAway_25 (rfl : 25 + 1 = 26) rfl ?_
  refine g_if_eq (tgt := 52) hX dX2_takeAway_26 (by decide) (rfl : 26 + 3 = 29) ?_ ?_
  · exact wX2_takeAway_52 hX v1 x104 Y102
  · refine g_aload_n hX dX2_takeAway_29 (rfl : 29 + 1 = 30) rfl ?_
    refine ge_S_X2_15_S hX dX2_takeAway_30 (rfl : 30 + 3 = 33) ?_
    refine g_iload_n hX dX2_takeAway_33 (rfl : 33 + 1 = 34) rfl ?_
    refine al_S_S_2 hX dX2_takeAway_34 (rfl : 34 + 1 = 35) ?_
    refine g_aload_n hX dX2_takeAway_35 (rfl : 35 + 1 = 36) rfl ?_
    refine ge_S_X2_40_S hX dX2_takeAway_36 (rfl : 36 + 3 = 39) ?_
    refine g_icmp_lt (tgt := 52) hX dX2_takeAway_39 (by decide) (rfl : 39 + 3 = 42) ?_ ?_
    · exact wX2_takeAway_52 hX v1 x104 Y102
    · refine g_aload_n hX dX2_takeAway_42 (rfl : 42 + 1 = 43) rfl ?_
      refine g_aload_n hX dX2_takeAway_43 (rfl : 43 + 1 = 44) rfl ?_
      refine g_iload_n hX dX2_takeAway_44 (rfl : 44 + 1 = 45) rfl ?_
      refine ci_SS hX (kX2_firstOf _ _ _ (q) (qr) _ _) mw_X2_143 (by decide) rfl rfl (Nat.le_of_ble_eq_true rfl) dX2_takeAway_45 (rfl : 45 + 3 = 48) (fun r106 Y105 => ?_)
      refine g_iconst hX dX2_takeAway_48 (rfl : 48 + 1 = 49) ?_
      refine cv_SS hX (kX2_move _ _ _ (q) (qr) _ _ _) mw_X2_116 (by decide) rfl rfl (Nat.le_of_ble_eq_true rfl) dX2_takeAway_49 (rfl : 49 + 3 = 52) (fun Y107 => ?_)
      exact wX2_takeAway_52 hX v1 x104 Y107
set_option maxRecDepth 100000 in
theorem kX2_takeAway (l : Launch) (D : va_G) (y : ClassId × ClassId × ClassId) (q qr : Nat → Nat) (Y : St × St) (a0 : Int) : CtV l D y yX2_takeAway cX2_takeAway 3 (rmk 2) [.ref (q 0), .int (iz a0)] (wS y q qr) Y (fX2_takeAway Y a0) := by
  refine ctV_of (own := RX2) rfl (by decide) (cat1 rfl) rfl (fun X hl hX => ?_)
  subst hl
  show GF X cX2_takeAway D (0, 0) (QV X D y (wS y q qr)) (fX2_takeAway Y a0) 0 [some (.ref (q 0)), some (.int (iz a0)), none] [] (wS y q qr Y)
  unfold fX2_takeAway
  refine g_aload_n hX dX2_takeAway_0 (rfl : 0 + 1 = 1) rfl ?_
  refine ge_S_X2_44_S hX dX2_takeAway_1 (rfl : 1 + 3 = 4) ?_
  refine g_bipush hX dX2_takeAway_4 (by decide) (rfl : 4 + 2 = 6) ?_
  refine g_icmp_ne (tgt := 19) hX dX2_takeAway_6 (by decide) (rfl : 6 + 3 = 9) ?_ ?_
  · exact wX2_takeAway_19 hX a0 Y
  · refine g_aload_n hX dX2_takeAway_9 (rfl : 9 + 1 = 10) rfl ?_
    refine g_aload_n hX dX2_takeAway_10 (rfl : 10 + 1 = 11) rfl ?_
    refine ge_S_X2_27_S hX dX2_takeAway_11 (rfl : 11 + 3 = 14) ?_
    refine g_iload_n hX dX2_takeAway_14 (rfl : 14 + 1 = 15) rfl ?_
    refine al_S_S_6 hX dX2_takeAway_15 (rfl : 15 + 1 = 16) ?_
    refine pu_S_X2_68_S hX dX2_takeAway_16 (rfl : 16 + 3 = 19) (fun Y1 => ?_)
    exact wX2_takeAway_19 hX a0 Y1
set_option maxRecDepth 100000 in
theorem wX2_bring_83 {X : Cx} {D : va_G} {y : ClassId × ClassId × ClassId} {q qr : Nat → Nat} (hX : OKX X cX2_bring RX2 (rmk 3) (some .int) D y) (v1 v2 v4 : Int) (Y : St × St) : GF X cX2_bring D (0, 0) (QI X D y (wS y q qr)) (fX2_bring_j83 v1 v2 v4 Y) 83 [some (.ref (q 0)), some (.int (iz v1)), some (.int (iz v2)), none, some (.int (iz v4))] [] (wS y q qr Y) := by
  unfold fX2_bring_j83
  refine g_aload_n hX dX2_bring_83 (rfl : 83 + 1 = 84) rfl ?_
  refine g_iload_n hX dX2_bring_84 (rfl : 84 + 1 = 85) rfl ?_
  refine g_iload_n hX dX2_bring_85 (rfl : 85 + 1 = 86) rfl ?_
  refine cv_SS hX (kX2_move _ _ _ (q) (qr) _ _ _) mw_X2_116 (by decide) rfl rfl (Nat.le_of_ble_eq_true rfl) dX2_bring_86 (rfl : 86 + 3 = 89) (fun Y101 => ?_)
  refine g_iload hX dX2_bring_89 (rfl : 89 + 2 = 91) rfl ?_
  exact g_iret hX dX2_bring_91
set_option maxRecDepth 100000 in
theorem wX2_bring_42 {X : Cx} {D : va_G} {y : ClassId × ClassId × ClassId} {q qr : Nat → Nat} (hX : OKX X cX2_bring RX2 (rmk 3) (some .int) D y) (v1 v2 v3 v4 : Int) (Y : St × St) : GF X cX2_bring D (0, 0) (QI X D y (wS y q qr)) (fX2_bring_j42 v1 v2 v3 v4 Y) 42 [some (.ref (q 0)), some (.int (iz v1)), some (.int (iz v2)), some (.int (iz v3)), some (.int (iz v4))] [] (wS y q qr Y) := by
  unfold fX2_bring_j42
  refine g_aload_n hX dX2_bring_42 (rfl : 42 + 1 = 43) rfl ?_
  refine ge_S_X2_24_S hX dX2_bring_43 (rfl : 43 + 3 = 46) ?_
  refine g_iload_n hX dX2_bring_46 (rfl : 46 + 1 = 47) rfl ?_
  refine g_iconst hX dX2_bring_47 (rfl : 47 + 1 = 48) ?_
  refine as_S_S_5 hX dX2_bring_48 (rfl : 48 + 1 = 49) (fun Y102 => ?_)
  refine g_aload_n hX dX2_bring_49 (rfl : 49 + 1 = 50) rfl ?_
  refine ge_S_X2_30_S hX dX2_bring_50 (rfl : 50 + 3 = 53) ?_
  refine g_iload_n hX dX2_bring_53 (rfl : 53 + 1 = 54) rfl ?_
  refine g_iload_n hX dX2_bring_54 (rfl : 54 + 1 = 55) rfl ?_
  refine as_S_S_7 hX dX2_bring_55 (rfl : 55 + 1 = 56) (fun Y103 => ?_)
  refine g_aload_n hX dX2_bring_56 (rfl : 56 + 1 = 57) rfl ?_
  refine ge_S_X2_33_S hX dX2_bring_57 (rfl : 57 + 3 = 60) ?_
  refine g_iload_n hX dX2_bring_60 (rfl : 60 + 1 = 61) rfl ?_
  refine g_iload_n hX dX2_bring_61 (rfl : 61 + 1 = 62) rfl ?_
  refine as_S_S_8 hX dX2_bring_62 (rfl : 62 + 1 = 63) (fun Y104 => ?_)
  refine g_aload_n hX dX2_bring_63 (rfl : 63 + 1 = 64) rfl ?_
  refine ge_S_X2_44_S hX dX2_bring_64 (rfl : 64 + 3 = 67) ?_
  refine g_iconst hX dX2_bring_67 (rfl : 67 + 1 = 68) ?_
  refine g_icmp_ne (tgt := 83) hX dX2_bring_68 (by decide) (rfl : 68 + 3 = 71) ?_ ?_
  · refine g_drop (lv' := [some (.ref (q 0)), some (.int (iz v1)), some (.int (iz v2)), none, some (.int (iz v4))]) 3 rfl ?_
    exact wX2_bring_83 hX v1 v2 v4 Y104
  · refine g_aload_n hX dX2_bring_71 (rfl : 71 + 1 = 72) rfl ?_
    refine g_dup hX dX2_bring_72 rfl (rfl : 72 + 1 = 73) ?_
    refine ge_S_X2_56_S hX dX2_bring_73 (rfl : 73 + 3 = 76) ?_
    refine g_iconst hX dX2_bring_76 (rfl : 76 + 1 = 77) ?_
    refine g_iload_n hX dX2_bring_77 (rfl : 77 + 1 = 78) rfl ?_
    refine g_ishl hX dX2_bring_78 (rfl : 78 + 1 = 79) ?_
    refine g_ior hX dX2_bring_79 (rfl : 79 + 1 = 80) ?_
    refine pu_S_X2_56_S hX dX2_bring_80 (rfl : 80 + 3 = 83) (fun Y105 => ?_)
    refine g_drop (lv' := [some (.ref (q 0)), some (.int (iz v1)), some (.int (iz v2)), none, some (.int (iz v4))]) 3 rfl ?_
    exact wX2_bring_83 hX v1 v2 v4 Y105
set_option maxRecDepth 100000 in
theorem kX2_bring (l : Launch) (D : va_G) (y : ClassId × ClassId × ClassId) (q qr : Nat → Nat) (Y : St × St) (a0 : Int) : CtI l D y yX2_bring cX2_bring 5 (some .int) (rmk 3) [.ref (q 0), .int (iz a0)] (wS y q qr) Y (fX2_bring Y a0) := by
  refine ctI_of (own := RX2) rfl (by decide) (cat1 rfl) rfl (fun X hl hX => ?_)
  subst hl
  show GF X cX2_bring D (0, 0) (QI X D y (wS y q qr)) (fX2_bring Y a0) 0 [some (.ref (q 0)), some (.int (iz a0)), none, none, none] [] (wS y q qr Y)
  unfold fX2_bring
  refine g_aload_n hX dX2_bring_0 (rfl : 0 + 1 = 1) rfl ?_
  refine g_iload_n hX dX2_bring_1 (rfl : 1 + 1 = 2) rfl ?_
  refine ci_SS hX (kX2_partFor _ _ _ (q) (qr) _ _) mw_X2_119 (by decide) rfl rfl (Nat.le_of_ble_eq_true rfl) dX2_bring_2 (rfl : 2 + 3 = 5) (fun r2 Y1 => ?_)
  refine g_istore_n (lv' := fun x3 => [some (.ref (q 0)), some (.int (iz a0)), some (.int (iz x3)), none, none]) hX dX2_bring_5 (rfl : 5 + 1 = 6) rfl (fun _ => rfl) (fun x3 => ?_)
  refine g_aload_n hX dX2_bring_6 (rfl : 6 + 1 = 7) rfl ?_
  refine ci_SS hX (kX2_lying _ _ _ (q) (qr) _) mw_X2_122 (by decide) rfl rfl (Nat.le_of_ble_eq_true rfl) dX2_bring_7 (rfl : 7 + 3 = 10) (fun r5 Y4 => ?_)
  refine g_istore_n (lv' := fun x6 => [some (.ref (q 0)), some (.int (iz a0)), some (.int (iz x3)), some (.int (iz x6)), none]) hX dX2_bring_10 (rfl : 10 + 1 = 11) rfl (fun _ => rfl) (fun x6 => ?_)
  refine g_iconst hX dX2_bring_11 (rfl : 11 + 1 = 12) ?_
  refine g_istore (lv' := fun x7 => [some (.ref (q 0)), some (.int (iz a0)), some (.int (iz x3)), some (.int (iz x6)), some (.int (iz x7))]) hX dX2_bring_12 (rfl : 12 + 2 = 14) rfl (fun _ => rfl) (fun x7 => ?_)
  refine g_iload_n hX dX2_bring_14 (rfl : 14 + 1 = 15) rfl ?_
  refine g_aload_n hX dX2_bring_15 (rfl : 15 + 1 = 16) rfl ?_
  refine ge_S_X2_40_S hX dX2_bring_16 (rfl : 16 + 3 = 19) ?_
  refine g_icmp_lt (tgt := 42) hX dX2_bring_19 (by decide) (rfl : 19 + 3 = 22) ?_ ?_
  · exact wX2_bring_42 hX a0 x3 x6 x7 Y4
  · refine g_aload_n hX dX2_bring_22 (rfl : 22 + 1 = 23) rfl ?_
    refine ci_SS hX (kX2_chooseGoing _ _ _ (q) (qr) _) mw_X2_125 (by decide) rfl rfl (Nat.le_of_ble_eq_true rfl) dX2_bring_23 (rfl : 23 + 3 = 26) (fun r9 Y8 => ?_)
    refine g_istore (lv' := fun x10 => [some (.ref (q 0)), some (.int (iz a0)), some (.int (iz x3)), some (.int (iz x6)), some (.int (iz x10))]) hX dX2_bring_26 (rfl : 26 + 2 = 28) rfl (fun _ => rfl) (fun x10 => ?_)
    refine g_aload_n hX dX2_bring_28 (rfl : 28 + 1 = 29) rfl ?_
    refine ge_S_X2_30_S hX dX2_bring_29 (rfl : 29 + 3 = 32) ?_
    refine g_iload hX dX2_bring_32 (rfl : 32 + 2 = 34) rfl ?_
    refine al_S_S_7 hX dX2_bring_34 (rfl : 34 + 1 = 35) ?_
    refine g_istore_n (lv' := fun x11 => [some (.ref (q 0)), some (.int (iz a0)), some (.int (iz x3)), some (.int (iz x11)), some (.int (iz x10))]) hX dX2_bring_35 (rfl : 35 + 1 = 36) rfl (fun _ => rfl) (fun x11 => ?_)
    refine g_aload_n hX dX2_bring_36 (rfl : 36 + 1 = 37) rfl ?_
    refine g_iload hX dX2_bring_37 (rfl : 37 + 2 = 39) rfl ?_
    refine cv_SS hX (kX2_takeAway _ _ _ (q) (qr) _ _) mw_X2_128 (by decide) rfl rfl (Nat.le_of_ble_eq_true rfl) dX2_bring_39 (rfl : 39 + 3 = 42) (fun Y12 => ?_)
    exact wX2_bring_42 hX a0 x3 x11 x10 Y12
set_option maxRecDepth 100000 in
theorem wX2_step_61 {X : Cx} {D : va_G} {y : ClassId × ClassId × ClassId} {q qr : Nat → Nat} (hX : OKX X cX2_step RX2 (rmk 4) (some .int) D y) (v1 v2 : Int) (Y : St × St) : GF X cX2_step D (0, 0) (QI X D y (wS y q qr)) (fX2_step_j61 v1 v2 Y) 61 [some (.ref (q 0)), some (.int (iz v1)), some (.int (iz v2))] [] (wS y q qr Y) := by
  unfold fX2_step_j61
  refine g_aload_n hX dX2_step_61 (rfl : 61 + 1 = 62) rfl ?_
  refine ge_S_X2_27_S hX dX2_step_62 (rfl : 62 + 3 = 65) ?_
  refine g_iload_n hX dX2_step_65 (rfl : 65 + 1 = 66) rfl ?_
  refine g_aload_n hX dX2_step_66 (rfl : 66 + 1 = 67) rfl ?_
  refine ge_S_X2_68_S hX dX2_step_67 (rfl : 67 + 3 = 70) ?_
  refine g_aload_n hX dX2_step_70 (rfl : 70 + 1 = 71) rfl ?_
  refine ge_S_X2_36_S hX dX2_step_71 (rfl : 71 + 3 = 74) ?_
  refine ge_S_X2_109_R hX dX2_step_74 (rfl : 74 + 3 = 77) ?_
  refine g_iload_n hX dX2_step_77 (rfl : 77 + 1 = 78) rfl ?_
  refine al_S_R_1 hX dX2_step_78 (rfl : 78 + 1 = 79) ?_
  refine g_iadd hX dX2_step_79 (rfl : 79 + 1 = 80) ?_
  refine as_S_S_6 hX dX2_step_80 (rfl : 80 + 1 = 81) (fun Y101 => ?_)
  refine g_aload_n hX dX2_step_81 (rfl : 81 + 1 = 82) rfl ?_
  refine ge_S_X2_21_S hX dX2_step_82 (rfl : 82 + 3 = 85) ?_
  refine g_iload_n hX dX2_step_85 (rfl : 85 + 1 = 86) rfl ?_
  refine g_aload_n hX dX2_step_86 (rfl : 86 + 1 = 87) rfl ?_
  refine ge_S_X2_53_S hX dX2_step_87 (rfl : 87 + 3 = 90) ?_
  refine as_S_S_4 hX dX2_step_90 (rfl : 90 + 1 = 91) (fun Y102 => ?_)
  refine g_aload_n hX dX2_step_91 (rfl : 91 + 1 = 92) rfl ?_
  refine g_dup hX dX2_step_92 rfl (rfl : 92 + 1 = 93) ?_
  refine ge_S_X2_53_S hX dX2_step_93 (rfl : 93 + 3 = 96) ?_
  refine g_iconst hX dX2_step_96 (rfl : 96 + 1 = 97) ?_
  refine g_iadd hX dX2_step_97 (rfl : 97 + 1 = 98) ?_
  refine pu_S_X2_53_S hX dX2_step_98 (rfl : 98 + 3 = 101) (fun Y103 => ?_)
  refine g_iload_n hX dX2_step_101 (rfl : 101 + 1 = 102) rfl ?_
  exact g_iret hX dX2_step_102
set_option maxRecDepth 100000 in
theorem kX2_step (l : Launch) (D : va_G) (y : ClassId × ClassId × ClassId) (q qr : Nat → Nat) (Y : St × St) : CtI l D y yX2_step cX2_step 3 (some .int) (rmk 4) [.ref (q 0)] (wS y q qr) Y (fX2_step Y) := by
  refine ctI_of (own := RX2) rfl (by decide) (cat1 rfl) rfl (fun X hl hX => ?_)
  subst hl
  show GF X cX2_step D (0, 0) (QI X D y (wS y q qr)) (fX2_step Y) 0 [some (.ref (q 0)), none, none] [] (wS y q qr Y)
  unfold fX2_step
  refine g_aload_n hX dX2_step_0 (rfl : 0 + 1 = 1) rfl ?_
  refine ge_S_X2_36_S hX dX2_step_1 (rfl : 1 + 3 = 4) ?_
  refine g_aload_n hX dX2_step_4 (rfl : 4 + 1 = 5) rfl ?_
  refine ge_S_X2_53_S hX dX2_step_5 (rfl : 5 + 3 = 8) ?_
  refine ci_SR hX (kX1_has _ _ _ (qr) _ _) mw_X2_91 (by decide) rfl rfl (Nat.le_of_ble_eq_true rfl) dX2_step_8 (rfl : 8 + 3 = 11) (fun r2 Y1 => ?_)
  refine g_if_ne (tgt := 16) hX dX2_step_11 (by decide) (rfl : 11 + 3 = 14) ?_ ?_
  · refine g_aload_n hX dX2_step_16 (rfl : 16 + 1 = 17) rfl ?_
    refine ge_S_X2_36_S hX dX2_step_17 (rfl : 17 + 3 = 20) ?_
    refine ge_S_X2_95_R hX dX2_step_20 (rfl : 20 + 3 = 23) ?_
    refine g_aload_n hX dX2_step_23 (rfl : 23 + 1 = 24) rfl ?_
    refine ge_S_X2_53_S hX dX2_step_24 (rfl : 24 + 3 = 27) ?_
    refine al_S_R_0 hX dX2_step_27 (rfl : 27 + 1 = 28) ?_
    refine g_istore_n (lv' := fun x3 => [some (.ref (q 0)), some (.int (iz x3)), none]) hX dX2_step_28 (rfl : 28 + 1 = 29) rfl (fun _ => rfl) (fun x3 => ?_)
    refine g_iconst hX dX2_step_29 (rfl : 29 + 1 = 30) ?_
    refine g_istore_n (lv' := fun x4 => [some (.ref (q 0)), some (.int (iz x3)), some (.int (iz x4))]) hX dX2_step_30 (rfl : 30 + 1 = 31) rfl (fun _ => rfl) (fun x4 => ?_)
    refine g_aload_n hX dX2_step_31 (rfl : 31 + 1 = 32) rfl ?_
    refine g_aload_n hX dX2_step_32 (rfl : 32 + 1 = 33) rfl ?_
    refine g_iload_n hX dX2_step_33 (rfl : 33 + 1 = 34) rfl ?_
    refine ci_SS hX (kX2_lies _ _ _ (q) (qr) _ _) mw_X2_98 (by decide) rfl rfl (Nat.le_of_ble_eq_true rfl) dX2_step_34 (rfl : 34 + 3 = 37) (fun r6 Y5 => ?_)
    refine pu_S_X2_87_S hX dX2_step_37 (rfl : 37 + 3 = 40) (fun Y7 => ?_)
    refine g_aload_n hX dX2_step_40 (rfl : 40 + 1 = 41) rfl ?_
    refine ge_S_X2_87_S hX dX2_step_41 (rfl : 41 + 3 = 44) ?_
    refine g_if_eq (tgt := 55) hX dX2_step_44 (by decide) (rfl : 44 + 3 = 47) ?_ ?_
    · refine g_aload_n hX dX2_step_55 (rfl : 55 + 1 = 56) rfl ?_
      refine g_iload_n hX dX2_step_56 (rfl : 56 + 1 = 57) rfl ?_
      refine ci_SS hX (kX2_bring _ _ _ (q) (qr) _ _) mw_X2_105 (by decide) rfl rfl (Nat.le_of_ble_eq_true rfl) dX2_step_57 (rfl : 57 + 3 = 60) (fun r9 Y8 => ?_)
      refine g_istore_n (lv' := fun x10 => [some (.ref (q 0)), some (.int (iz x3)), some (.int (iz x10))]) hX dX2_step_60 (rfl : 60 + 1 = 61) rfl (fun _ => rfl) (fun x10 => ?_)
      exact wX2_step_61 hX x3 x10 Y8
    · refine g_aload_n hX dX2_step_47 (rfl : 47 + 1 = 48) rfl ?_
      refine g_iload_n hX dX2_step_48 (rfl : 48 + 1 = 49) rfl ?_
      refine cv_SS hX (kX2_meet _ _ _ (q) (qr) _ _) mw_X2_101 (by decide) rfl rfl (Nat.le_of_ble_eq_true rfl) dX2_step_49 (rfl : 49 + 3 = 52) (fun Y11 => ?_)
      refine g_goto (pc' := 61) hX dX2_step_52 (by decide) ?_
      exact wX2_step_61 hX x3 x4 Y11
  · refine g_iconst hX dX2_step_14 (rfl : 14 + 1 = 15) ?_
    exact g_iret hX dX2_step_15
set_option maxRecDepth 100000 in
theorem wX2_missesBy_44 {X : Cx} {D : va_G} {y : ClassId × ClassId × ClassId} {q qr : Nat → Nat} (hX : OKX X cX2_missesBy RX2 (rmk 5) (some .int) D y) (v3 : Int) (Y : St × St) : GF X cX2_missesBy D (0, 0) (QI X D y (wS y q qr)) (fX2_missesBy_j44 v3 Y) 44 [some (.ref (q 0)), none, none, some (.int (iz v3)), none] [] (wS y q qr Y) := by
  unfold fX2_missesBy_j44
  refine g_iload_n hX dX2_missesBy_44 (rfl : 44 + 1 = 45) rfl ?_
  exact g_iret hX dX2_missesBy_45
set_option maxRecDepth 100000 in
theorem wX2_missesBy_38 {X : Cx} {D : va_G} {y : ClassId × ClassId × ClassId} {q qr : Nat → Nat} (hX : OKX X cX2_missesBy RX2 (rmk 5) (some .int) D y) {k_11 : Int → Int → (St × St) → Option (Int × (St × St))} (hk_11 : ∀ (v3 v4 : Int) (Y : St × St), GF X cX2_missesBy D (0, 0) (QI X D y (wS y q qr)) (k_11 v3 v4 Y) 11 [some (.ref (q 0)), none, none, some (.int (iz v3)), some (.int (iz v4))] [] (wS y q qr Y)) (v3 v4 : Int) (Y : St × St) : GF X cX2_missesBy D (0, 0) (QI X D y (wS y q qr)) (fX2_missesBy_j38 k_11 v3 v4 Y) 38 [some (.ref (q 0)), none, none, some (.int (iz v3)), some (.int (iz v4))] [] (wS y q qr Y) := by
  unfold fX2_missesBy_j38
  refine g_iinc (lv' := fun x101 => [some (.ref (q 0)), none, none, some (.int (iz v3)), some (.int (iz x101))]) hX dX2_missesBy_38 (rfl : 38 + 3 = 41) rfl (fun _ => rfl) (fun x101 => ?_)
  refine g_goto (pc' := 11) hX dX2_missesBy_41 (by decide) ?_
  exact hk_11 v3 x101 Y
set_option maxRecDepth 100000 in
theorem wX2_missesBy_11 {X : Cx} {D : va_G} {y : ClassId × ClassId × ClassId} {q qr : Nat → Nat} (hX : OKX X cX2_missesBy RX2 (rmk 5) (some .int) D y) : ∀ (n : Nat) (v3 v4 : Int) (Y : St × St), GF X cX2_missesBy D (0, 0) (QI X D y (wS y q qr)) (fX2_missesBy_l11 n v3 v4 Y) 11 [some (.ref (q 0)), none, none, some (.int (iz v3)), some (.int (iz v4))] [] (wS y q qr Y) := by
  intro n
  induction n with
  | zero => intro v3 v4 Y; exact g_none
  | succ n hk_11 =>
    intro v3 v4 Y
    unfold fX2_missesBy_l11
    refine g_iload hX dX2_missesBy_11 (rfl : 11 + 2 = 13) rfl ?_
    refine g_aload_n hX dX2_missesBy_13 (rfl : 13 + 1 = 14) rfl ?_
    refine ge_S_X2_36_S hX dX2_missesBy_14 (rfl : 14 + 3 = 17) ?_
    refine ge_S_X2_80_R hX dX2_missesBy_17 (rfl : 17 + 3 = 20) ?_
    refine g_icmp_ge (tgt := 44) hX dX2_missesBy_20 (by decide) (rfl : 20 + 3 = 23) ?_ ?_
    · refine g_drop (lv' := [some (.ref (q 0)), none, none, some (.int (iz v3)), none]) 4 rfl ?_
      exact wX2_missesBy_44 hX v3 Y
    · refine g_aload_n hX dX2_missesBy_23 (rfl : 23 + 1 = 24) rfl ?_
      refine ci_SS hX (kX2_step _ _ _ (q) (qr) _) mw_X2_83 (by decide) rfl rfl (Nat.le_of_ble_eq_true rfl) dX2_missesBy_24 (rfl : 24 + 3 = 27) (fun r103 Y102 => ?_)
      refine g_pop hX dX2_missesBy_27 rfl (rfl : 27 + 1 = 28) ?_
      refine g_aload_n hX dX2_missesBy_28 (rfl : 28 + 1 = 29) rfl ?_
      refine ge_S_X2_87_S hX dX2_missesBy_29 (rfl : 29 + 3 = 32) ?_
      refine g_if_ne (tgt := 38) hX dX2_missesBy_32 (by decide) (rfl : 32 + 3 = 35) ?_ ?_
      · exact wX2_missesBy_38 hX hk_11 v3 v4 Y102
      · refine g_iinc (lv' := fun x104 => [some (.ref (q 0)), none, none, some (.int (iz x104)), some (.int (iz v4))]) hX dX2_missesBy_35 (rfl : 35 + 3 = 38) rfl (fun _ => rfl) (fun x104 => ?_)
        exact wX2_missesBy_38 hX hk_11 x104 v4 Y102
set_option maxRecDepth 100000 in
theorem kX2_missesBy (l : Launch) (D : va_G) (y : ClassId × ClassId × ClassId) (q qr : Nat → Nat) (Y : St × St) (a0 a1 : Int) : CtI l D y yX2_missesBy cX2_missesBy 5 (some .int) (rmk 5) [.ref (q 0), .int (iz a0), .int (iz a1)] (wS y q qr) Y (fX2_missesBy Y a0 a1) := by
  refine ctI_of (own := RX2) rfl (by decide) (cat1 rfl) rfl (fun X hl hX => ?_)
  subst hl
  show GF X cX2_missesBy D (0, 0) (QI X D y (wS y q qr)) (fX2_missesBy Y a0 a1) 0 [some (.ref (q 0)), some (.int (iz a0)), some (.int (iz a1)), none, none] [] (wS y q qr Y)
  unfold fX2_missesBy
  refine g_aload_n hX dX2_missesBy_0 (rfl : 0 + 1 = 1) rfl ?_
  refine g_iload_n hX dX2_missesBy_1 (rfl : 1 + 1 = 2) rfl ?_
  refine g_iload_n hX dX2_missesBy_2 (rfl : 2 + 1 = 3) rfl ?_
  refine cv_SS hX (kX2_begin _ _ _ (q) (qr) _ _ _) mw_X2_76 (by decide) rfl rfl (Nat.le_of_ble_eq_true rfl) dX2_missesBy_3 (rfl : 3 + 3 = 6) (fun Y1 => ?_)
  refine g_iconst hX dX2_missesBy_6 (rfl : 6 + 1 = 7) ?_
  refine g_istore_n (lv' := fun x2 => [some (.ref (q 0)), some (.int (iz a0)), some (.int (iz a1)), some (.int (iz x2)), none]) hX dX2_missesBy_7 (rfl : 7 + 1 = 8) rfl (fun _ => rfl) (fun x2 => ?_)
  refine g_iconst hX dX2_missesBy_8 (rfl : 8 + 1 = 9) ?_
  refine g_istore (lv' := fun x3 => [some (.ref (q 0)), some (.int (iz a0)), some (.int (iz a1)), some (.int (iz x2)), some (.int (iz x3))]) hX dX2_missesBy_9 (rfl : 9 + 2 = 11) rfl (fun _ => rfl) (fun x3 => ?_)
  refine g_drop (lv' := [some (.ref (q 0)), none, some (.int (iz a1)), some (.int (iz x2)), some (.int (iz x3))]) 1 rfl ?_
  refine g_drop (lv' := [some (.ref (q 0)), none, none, some (.int (iz x2)), some (.int (iz x3))]) 2 rfl ?_
  exact wX2_missesBy_11 hX FU x2 x3 Y1
set_option maxRecDepth 100000 in
theorem wX2_standBehind_27 {X : Cx} {D : va_G} {y : ClassId × ClassId × ClassId} {q qr : Nat → Nat} (hX : OKX X cX2_standBehind RX2 (rmk 5) none D y) : ∀ (n : Nat) (v1 v2 : Int) (Y : St × St), GF X cX2_standBehind D (0, 0) (QV X D y (wS y q qr)) (fX2_standBehind_l27 n v1 v2 Y) 27 [some (.ref (q 0)), some (.int (iz v1)), some (.int (iz v2))] [] (wS y q qr Y) := by
  intro n
  induction n with
  | zero => intro v1 v2 Y; exact g_none
  | succ n hk_27 =>
    intro v1 v2 Y
    unfold fX2_standBehind_l27
    refine g_iload_n hX dX2_standBehind_27 (rfl : 27 + 1 = 28) rfl ?_
    refine g_iload_n hX dX2_standBehind_28 (rfl : 28 + 1 = 29) rfl ?_
    refine g_icmp_gt (tgt := 43) hX dX2_standBehind_29 (by decide) (rfl : 29 + 3 = 32) ?_ ?_
    · exact g_vret hX dX2_standBehind_43
    · refine g_aload_n hX dX2_standBehind_32 (rfl : 32 + 1 = 33) rfl ?_
      refine ci_SS hX (kX2_step _ _ _ (q) (qr) _) mw_X2_83 (by decide) rfl rfl (Nat.le_of_ble_eq_true rfl) dX2_standBehind_33 (rfl : 33 + 3 = 36) (fun r102 Y101 => ?_)
      refine g_pop hX dX2_standBehind_36 rfl (rfl : 36 + 1 = 37) ?_
      refine g_iinc (lv' := fun x103 => [some (.ref (q 0)), some (.int (iz v1)), some (.int (iz x103))]) hX dX2_standBehind_37 (rfl : 37 + 3 = 40) rfl (fun _ => rfl) (fun x103 => ?_)
      refine g_goto (pc' := 27) hX dX2_standBehind_40 (by decide) ?_
      exact hk_27 v1 x103 Y101
set_option maxRecDepth 100000 in
theorem wX2_standBehind_22 {X : Cx} {D : va_G} {y : ClassId × ClassId × ClassId} {q qr : Nat → Nat} (hX : OKX X cX2_standBehind RX2 (rmk 5) none D y) (v1 : Int) (Y : St × St) : GF X cX2_standBehind D (0, 0) (QV X D y (wS y q qr)) (fX2_standBehind_j22 v1 Y) 22 [some (.ref (q 0)), some (.int (iz v1)), none] [] (wS y q qr Y) := by
  unfold fX2_standBehind_j22
  refine g_aload_n hX dX2_standBehind_22 (rfl : 22 + 1 = 23) rfl ?_
  refine ge_S_X2_53_S hX dX2_standBehind_23 (rfl : 23 + 3 = 26) ?_
  refine g_istore_n (lv' := fun x104 => [some (.ref (q 0)), some (.int (iz v1)), some (.int (iz x104))]) hX dX2_standBehind_26 (rfl : 26 + 1 = 27) rfl (fun _ => rfl) (fun x104 => ?_)
  exact wX2_standBehind_27 hX FU v1 x104 Y
set_option maxRecDepth 100000 in
theorem kX2_standBehind (l : Launch) (D : va_G) (y : ClassId × ClassId × ClassId) (q qr : Nat → Nat) (Y : St × St) (a0 : Int) : CtV l D y yX2_standBehind cX2_standBehind 3 (rmk 5) [.ref (q 0), .int (iz a0)] (wS y q qr) Y (fX2_standBehind Y a0) := by
  refine ctV_of (own := RX2) rfl (by decide) (cat1 rfl) rfl (fun X hl hX => ?_)
  subst hl
  show GF X cX2_standBehind D (0, 0) (QV X D y (wS y q qr)) (fX2_standBehind Y a0) 0 [some (.ref (q 0)), some (.int (iz a0)), none] [] (wS y q qr Y)
  unfold fX2_standBehind
  refine g_aload_n hX dX2_standBehind_0 (rfl : 0 + 1 = 1) rfl ?_
  refine ge_S_X2_53_S hX dX2_standBehind_1 (rfl : 1 + 3 = 4) ?_
  refine g_iload_n hX dX2_standBehind_4 (rfl : 4 + 1 = 5) rfl ?_
  refine g_iconst hX dX2_standBehind_5 (rfl : 5 + 1 = 6) ?_
  refine g_iadd hX dX2_standBehind_6 (rfl : 6 + 1 = 7) ?_
  refine g_icmp_le (tgt := 22) hX dX2_standBehind_7 (by decide) (rfl : 7 + 3 = 10) ?_ ?_
  · exact wX2_standBehind_22 hX a0 Y
  · refine g_aload_n hX dX2_standBehind_10 (rfl : 10 + 1 = 11) rfl ?_
    refine g_aload_n hX dX2_standBehind_11 (rfl : 11 + 1 = 12) rfl ?_
    refine ge_S_X2_44_S hX dX2_standBehind_12 (rfl : 12 + 3 = 15) ?_
    refine g_aload_n hX dX2_standBehind_15 (rfl : 15 + 1 = 16) rfl ?_
    refine ge_S_X2_40_S hX dX2_standBehind_16 (rfl : 16 + 3 = 19) ?_
    refine cv_SS hX (kX2_begin _ _ _ (q) (qr) _ _ _) mw_X2_76 (by decide) rfl rfl (Nat.le_of_ble_eq_true rfl) dX2_standBehind_19 (rfl : 19 + 3 = 22) (fun Y1 => ?_)
    exact wX2_standBehind_22 hX a0 Y1
set_option maxRecDepth 100000 in
theorem wX2_leastAbsent_24 {X : Cx} {D : va_G} {y : ClassId × ClassId × ClassId} {q qr : Nat → Nat} (hX : OKX X cX2_leastAbsent RX2 (rmk 1) (some .int) D y) (v1 : Int) (Y : St × St) : GF X cX2_leastAbsent D (0, 0) (QI X D y (wS y q qr)) (fX2_leastAbsent_j24 v1 Y) 24 [some (.ref (q 0)), some (.int (iz v1))] [] (wS y q qr Y) := by
  unfold fX2_leastAbsent_j24
  refine g_iload_n hX dX2_leastAbsent_24 (rfl : 24 + 1 = 25) rfl ?_
  exact g_iret hX dX2_leastAbsent_25
set_option maxRecDepth 100000 in
theorem wX2_leastAbsent_2 {X : Cx} {D : va_G} {y : ClassId × ClassId × ClassId} {q qr : Nat → Nat} (hX : OKX X cX2_leastAbsent RX2 (rmk 1) (some .int) D y) : ∀ (n : Nat) (v1 : Int) (Y : St × St), GF X cX2_leastAbsent D (0, 0) (QI X D y (wS y q qr)) (fX2_leastAbsent_l2 n v1 Y) 2 [some (.ref (q 0)), some (.int (iz v1))] [] (wS y q qr Y) := by
  intro n
  induction n with
  | zero => intro v1 Y; exact g_none
  | succ n hk_2 =>
    intro v1 Y
    unfold fX2_leastAbsent_l2
    refine g_iload_n hX dX2_leastAbsent_2 (rfl : 2 + 1 = 3) rfl ?_
    refine g_aload_n hX dX2_leastAbsent_3 (rfl : 3 + 1 = 4) rfl ?_
    refine ge_S_X2_40_S hX dX2_leastAbsent_4 (rfl : 4 + 3 = 7) ?_
    refine g_icmp_ge (tgt := 24) hX dX2_leastAbsent_7 (by decide) (rfl : 7 + 3 = 10) ?_ ?_
    · exact wX2_leastAbsent_24 hX v1 Y
    · refine g_aload_n hX dX2_leastAbsent_10 (rfl : 10 + 1 = 11) rfl ?_
      refine g_iload_n hX dX2_leastAbsent_11 (rfl : 11 + 1 = 12) rfl ?_
      refine ci_SS hX (kX2_lies _ _ _ (q) (qr) _ _) mw_X2_98 (by decide) rfl rfl (Nat.le_of_ble_eq_true rfl) dX2_leastAbsent_12 (rfl : 12 + 3 = 15) (fun r102 Y101 => ?_)
      refine g_if_eq (tgt := 24) hX dX2_leastAbsent_15 (by decide) (rfl : 15 + 3 = 18) ?_ ?_
      · exact wX2_leastAbsent_24 hX v1 Y101
      · refine g_iinc (lv' := fun x103 => [some (.ref (q 0)), some (.int (iz x103))]) hX dX2_leastAbsent_18 (rfl : 18 + 3 = 21) rfl (fun _ => rfl) (fun x103 => ?_)
        refine g_goto (pc' := 2) hX dX2_leastAbsent_21 (by decide) ?_
        exact hk_2 x103 Y101
set_option maxRecDepth 100000 in
theorem kX2_leastAbsent (l : Launch) (D : va_G) (y : ClassId × ClassId × ClassId) (q qr : Nat → Nat) (Y : St × St) : CtI l D y yX2_leastAbsent cX2_leastAbsent 2 (some .int) (rmk 1) [.ref (q 0)] (wS y q qr) Y (fX2_leastAbsent Y) := by
  refine ctI_of (own := RX2) rfl (by decide) (cat1 rfl) rfl (fun X hl hX => ?_)
  subst hl
  show GF X cX2_leastAbsent D (0, 0) (QI X D y (wS y q qr)) (fX2_leastAbsent Y) 0 [some (.ref (q 0)), none] [] (wS y q qr Y)
  unfold fX2_leastAbsent
  refine g_iconst hX dX2_leastAbsent_0 (rfl : 0 + 1 = 1) ?_
  refine g_istore_n (lv' := fun x1 => [some (.ref (q 0)), some (.int (iz x1))]) hX dX2_leastAbsent_1 (rfl : 1 + 1 = 2) rfl (fun _ => rfl) (fun x1 => ?_)
  exact wX2_leastAbsent_2 hX FU x1 Y
set_option maxRecDepth 100000 in
theorem wX2_knowsOfThing_87 {X : Cx} {D : va_G} {y : ClassId × ClassId × ClassId} {q qr : Nat → Nat} (hX : OKX X cX2_knowsOfThing RX2 (rmk 1) (some .boolean) D y) (s0 : Int) (Y : St × St) : GF X cX2_knowsOfThing D (0, 0) (QI X D y (wS y q qr)) (fX2_knowsOfThing_j87 s0 Y) 87 [some (.ref (q 0)), none] [.int (iz s0)] (wS y q qr Y) := by
  unfold fX2_knowsOfThing_j87
  exact g_zret hX dX2_knowsOfThing_87
set_option maxRecDepth 100000 in
theorem wX2_knowsOfThing_67 {X : Cx} {D : va_G} {y : ClassId × ClassId × ClassId} {q qr : Nat → Nat} (hX : OKX X cX2_knowsOfThing RX2 (rmk 1) (some .boolean) D y) (s0 : Int) (Y : St × St) : GF X cX2_knowsOfThing D (0, 0) (QI X D y (wS y q qr)) (fX2_knowsOfThing_j67 s0 Y) 67 [some (.ref (q 0)), none] [.int (iz s0)] (wS y q qr Y) := by
  unfold fX2_knowsOfThing_j67
  exact g_zret hX dX2_knowsOfThing_67
set_option maxRecDepth 100000 in
theorem wX2_knowsOfThing_53 {X : Cx} {D : va_G} {y : ClassId × ClassId × ClassId} {q qr : Nat → Nat} (hX : OKX X cX2_knowsOfThing RX2 (rmk 1) (some .boolean) D y) (s0 : Int) (Y : St × St) : GF X cX2_knowsOfThing D (0, 0) (QI X D y (wS y q qr)) (fX2_knowsOfThing_j53 s0 Y) 53 [some (.ref (q 0)), none] [.int (iz s0)] (wS y q qr Y) := by
  unfold fX2_knowsOfThing_j53
  exact g_zret hX dX2_knowsOfThing_53
set_option maxRecDepth 100000 in
theorem wX2_knowsOfThing_48 {X : Cx} {D : va_G} {y : ClassId × ClassId × ClassId} {q qr : Nat → Nat} (hX : OKX X cX2_knowsOfThing RX2 (rmk 1) (some .boolean) D y) (Y : St × St) : GF X cX2_knowsOfThing D (0, 0) (QI X D y (wS y q qr)) (fX2_knowsOfThing_j48  Y) 48 [some (.ref (q 0)), none] [] (wS y q qr Y) := by
  unfold fX2_knowsOfThing_j48
  refine g_iconst hX dX2_knowsOfThing_48 (rfl : 48 + 1 = 49) ?_
  refine g_goto (pc' := 53) hX dX2_knowsOfThing_49 (by decide) ?_
  exact wX2_knowsOfThing_53 hX 1 Y
set_option maxRecDepth 100000 in
theorem kX2_knowsOfThing (l : Launch) (D : va_G) (y : ClassId × ClassId × ClassId) (q qr : Nat → Nat) (Y : St × St) (a0 : Int) : CtI l D y yX2_knowsOfThing cX2_knowsOfThing 2 (some .boolean) (rmk 1) [.ref (q 0), .int (iz a0)] (wS y q qr) Y (fX2_knowsOfThing Y a0) := by
  refine ctI_of (own := RX2) rfl (by decide) (cat1 rfl) rfl (fun X hl hX => ?_)
  subst hl
  show GF X cX2_knowsOfThing D (0, 0) (QI X D y (wS y q qr)) (fX2_knowsOfThing Y a0) 0 [some (.ref (q 0)), some (.int (iz a0))] [] (wS y q qr Y)
  unfold fX2_knowsOfThing
  refine g_iload_n hX dX2_knowsOfThing_0 (rfl : 0 + 1 = 1) rfl ?_
  refine g_ite (fun c1 => ?_) (fun c1 => ?_)
  · refine g_tab (tgt := 32) hX c1 dX2_knowsOfThing_1 (by decide) (by decide) rfl (by decide) ?_
    refine g_aload_n hX dX2_knowsOfThing_32 (rfl : 32 + 1 = 33) rfl ?_
    refine ge_S_X2_44_S hX dX2_knowsOfThing_33 (rfl : 33 + 3 = 36) ?_
    refine g_iconst hX dX2_knowsOfThing_36 (rfl : 36 + 1 = 37) ?_
    refine g_icmp_eq (tgt := 48) hX dX2_knowsOfThing_37 (by decide) (rfl : 37 + 3 = 40) ?_ ?_
    · refine g_drop (lv' := [some (.ref (q 0)), none]) 1 rfl ?_
      exact wX2_knowsOfThing_48 hX  Y
    · refine g_aload_n hX dX2_knowsOfThing_40 (rfl : 40 + 1 = 41) rfl ?_
      refine ge_S_X2_44_S hX dX2_knowsOfThing_41 (rfl : 41 + 3 = 44) ?_
      refine g_iconst hX dX2_knowsOfThing_44 (rfl : 44 + 1 = 45) ?_
      refine g_icmp_ne (tgt := 52) hX dX2_knowsOfThing_45 (by decide) (rfl : 45 + 3 = 48) ?_ ?_
      · refine g_iconst hX dX2_knowsOfThing_52 (rfl : 52 + 1 = 53) ?_
        refine g_drop (lv' := [some (.ref (q 0)), none]) 1 rfl ?_
        exact wX2_knowsOfThing_53 hX 0 Y
      · refine g_drop (lv' := [some (.ref (q 0)), none]) 1 rfl ?_
        exact wX2_knowsOfThing_48 hX  Y
  refine g_ite (fun c2 => ?_) (fun c2 => ?_)
  · refine g_tab (tgt := 54) hX c2 dX2_knowsOfThing_1 (by decide) (by decide) rfl (by decide) ?_
    refine g_aload_n hX dX2_knowsOfThing_54 (rfl : 54 + 1 = 55) rfl ?_
    refine ge_S_X2_44_S hX dX2_knowsOfThing_55 (rfl : 55 + 3 = 58) ?_
    refine g_iconst hX dX2_knowsOfThing_58 (rfl : 58 + 1 = 59) ?_
    refine g_icmp_ne (tgt := 66) hX dX2_knowsOfThing_59 (by decide) (rfl : 59 + 3 = 62) ?_ ?_
    · refine g_iconst hX dX2_knowsOfThing_66 (rfl : 66 + 1 = 67) ?_
      refine g_drop (lv' := [some (.ref (q 0)), none]) 1 rfl ?_
      exact wX2_knowsOfThing_67 hX 0 Y
    · refine g_iconst hX dX2_knowsOfThing_62 (rfl : 62 + 1 = 63) ?_
      refine g_goto (pc' := 67) hX dX2_knowsOfThing_63 (by decide) ?_
      refine g_drop (lv' := [some (.ref (q 0)), none]) 1 rfl ?_
      exact wX2_knowsOfThing_67 hX 1 Y
  refine g_ite (fun c3 => ?_) (fun c3 => ?_)
  · refine g_tab (tgt := 68) hX c3 dX2_knowsOfThing_1 (by decide) (by decide) rfl (by decide) ?_
    refine g_aload_n hX dX2_knowsOfThing_68 (rfl : 68 + 1 = 69) rfl ?_
    refine ci_SS hX (kX2_hasBooks _ _ _ (q) (qr) _) mw_X2_112 (by decide) rfl rfl (Nat.le_of_ble_eq_true rfl) dX2_knowsOfThing_69 (rfl : 69 + 3 = 72) (fun r5 Y4 => ?_)
    exact g_zret hX dX2_knowsOfThing_72
  refine g_ite (fun c6 => ?_) (fun c6 => ?_)
  · refine g_tab (tgt := 73) hX c6 dX2_knowsOfThing_1 (by decide) (by decide) rfl (by decide) ?_
    refine g_aload_n hX dX2_knowsOfThing_73 (rfl : 73 + 1 = 74) rfl ?_
    refine ge_S_X2_44_S hX dX2_knowsOfThing_74 (rfl : 74 + 3 = 77) ?_
    refine g_bipush hX dX2_knowsOfThing_77 (by decide) (rfl : 77 + 2 = 79) ?_
    refine g_icmp_ne (tgt := 86) hX dX2_knowsOfThing_79 (by decide) (rfl : 79 + 3 = 82) ?_ ?_
    · refine g_iconst hX dX2_knowsOfThing_86 (rfl : 86 + 1 = 87) ?_
      refine g_drop (lv' := [some (.ref (q 0)), none]) 1 rfl ?_
      exact wX2_knowsOfThing_87 hX 0 Y
    · refine g_iconst hX dX2_knowsOfThing_82 (rfl : 82 + 1 = 83) ?_
      refine g_goto (pc' := 87) hX dX2_knowsOfThing_83 (by decide) ?_
      refine g_drop (lv' := [some (.ref (q 0)), none]) 1 rfl ?_
      exact wX2_knowsOfThing_87 hX 1 Y
  refine g_tabD (tgt := 88) hX dX2_knowsOfThing_1 (by omega) (by decide) ?_
  refine g_iconst hX dX2_knowsOfThing_88 (rfl : 88 + 1 = 89) ?_
  exact g_zret hX dX2_knowsOfThing_89
set_option maxRecDepth 100000 in
theorem wX2_tellOfThing_122 {X : Cx} {D : va_G} {y : ClassId × ClassId × ClassId} {q qr : Nat → Nat} (hX : OKX X cX2_tellOfThing RX2 (rmk 1) (some .int) D y) (s0 : Int) (Y : St × St) : GF X cX2_tellOfThing D (0, 0) (QI X D y (wS y q qr)) (fX2_tellOfThing_j122 s0 Y) 122 [some (.ref (q 0)), none, none] [.int (iz s0)] (wS y q qr Y) := by
  unfold fX2_tellOfThing_j122
  exact g_iret hX dX2_tellOfThing_122
set_option maxRecDepth 100000 in
theorem wX2_tellOfThing_96 {X : Cx} {D : va_G} {y : ClassId × ClassId × ClassId} {q qr : Nat → Nat} (hX : OKX X cX2_tellOfThing RX2 (rmk 1) (some .int) D y) (s0 : Int) (Y : St × St) : GF X cX2_tellOfThing D (0, 0) (QI X D y (wS y q qr)) (fX2_tellOfThing_j96 s0 Y) 96 [some (.ref (q 0)), none, none] [.int (iz s0)] (wS y q qr Y) := by
  unfold fX2_tellOfThing_j96
  exact g_iret hX dX2_tellOfThing_96
set_option maxRecDepth 100000 in
theorem wX2_tellOfThing_68 {X : Cx} {D : va_G} {y : ClassId × ClassId × ClassId} {q qr : Nat → Nat} (hX : OKX X cX2_tellOfThing RX2 (rmk 1) (some .int) D y) (s0 : Int) (Y : St × St) : GF X cX2_tellOfThing D (0, 0) (QI X D y (wS y q qr)) (fX2_tellOfThing_j68 s0 Y) 68 [some (.ref (q 0)), none, none] [.int (iz s0)] (wS y q qr Y) := by
  unfold fX2_tellOfThing_j68
  exact g_iret hX dX2_tellOfThing_68
set_option maxRecDepth 100000 in
theorem wX2_tellOfThing_49 {X : Cx} {D : va_G} {y : ClassId × ClassId × ClassId} {q qr : Nat → Nat} (hX : OKX X cX2_tellOfThing RX2 (rmk 1) (some .int) D y) (s0 : Int) (Y : St × St) : GF X cX2_tellOfThing D (0, 0) (QI X D y (wS y q qr)) (fX2_tellOfThing_j49 s0 Y) 49 [some (.ref (q 0)), none, none] [.int (iz s0)] (wS y q qr Y) := by
  unfold fX2_tellOfThing_j49
  exact g_iret hX dX2_tellOfThing_49
set_option maxRecDepth 100000 in
theorem kX2_tellOfThing (l : Launch) (D : va_G) (y : ClassId × ClassId × ClassId) (q qr : Nat → Nat) (Y : St × St) (a0 a1 : Int) : CtI l D y yX2_tellOfThing cX2_tellOfThing 3 (some .int) (rmk 1) [.ref (q 0), .int (iz a0), .int (iz a1)] (wS y q qr) Y (fX2_tellOfThing Y a0 a1) := by
  refine ctI_of (own := RX2) rfl (by decide) (cat1 rfl) rfl (fun X hl hX => ?_)
  subst hl
  show GF X cX2_tellOfThing D (0, 0) (QI X D y (wS y q qr)) (fX2_tellOfThing Y a0 a1) 0 [some (.ref (q 0)), some (.int (iz a0)), some (.int (iz a1))] [] (wS y q qr Y)
  unfold fX2_tellOfThing
  refine g_iload_n hX dX2_tellOfThing_0 (rfl : 0 + 1 = 1) rfl ?_
  refine g_ite (fun c1 => ?_) (fun c1 => ?_)
  · refine g_tab (tgt := 36) hX c1 dX2_tellOfThing_1 (by decide) (by decide) rfl (by decide) ?_
    refine g_aload_n hX dX2_tellOfThing_36 (rfl : 36 + 1 = 37) rfl ?_
    refine g_iload_n hX dX2_tellOfThing_37 (rfl : 37 + 1 = 38) rfl ?_
    refine ci_SS hX (kX2_lies _ _ _ (q) (qr) _ _) mw_X2_98 (by decide) rfl rfl (Nat.le_of_ble_eq_true rfl) dX2_tellOfThing_38 (rfl : 38 + 3 = 41) (fun r3 Y2 => ?_)
    refine g_if_eq (tgt := 48) hX dX2_tellOfThing_41 (by decide) (rfl : 41 + 3 = 44) ?_ ?_
    · refine g_iconst hX dX2_tellOfThing_48 (rfl : 48 + 1 = 49) ?_
      refine g_drop (lv' := [some (.ref (q 0)), none, some (.int (iz a1))]) 1 rfl ?_
      refine g_drop (lv' := [some (.ref (q 0)), none, none]) 2 rfl ?_
      exact wX2_tellOfThing_49 hX 0 Y2
    · refine g_iconst hX dX2_tellOfThing_44 (rfl : 44 + 1 = 45) ?_
      refine g_goto (pc' := 49) hX dX2_tellOfThing_45 (by decide) ?_
      refine g_drop (lv' := [some (.ref (q 0)), none, some (.int (iz a1))]) 1 rfl ?_
      refine g_drop (lv' := [some (.ref (q 0)), none, none]) 2 rfl ?_
      exact wX2_tellOfThing_49 hX 1 Y2
  refine g_ite (fun c4 => ?_) (fun c4 => ?_)
  · refine g_tab (tgt := 50) hX c4 dX2_tellOfThing_1 (by decide) (by decide) rfl (by decide) ?_
    refine g_aload_n hX dX2_tellOfThing_50 (rfl : 50 + 1 = 51) rfl ?_
    refine g_iload_n hX dX2_tellOfThing_51 (rfl : 51 + 1 = 52) rfl ?_
    refine ci_SS hX (kX2_lies _ _ _ (q) (qr) _ _) mw_X2_98 (by decide) rfl rfl (Nat.le_of_ble_eq_true rfl) dX2_tellOfThing_52 (rfl : 52 + 3 = 55) (fun r6 Y5 => ?_)
    refine g_if_eq (tgt := 67) hX dX2_tellOfThing_55 (by decide) (rfl : 55 + 3 = 58) ?_ ?_
    · refine g_iconst hX dX2_tellOfThing_67 (rfl : 67 + 1 = 68) ?_
      refine g_drop (lv' := [some (.ref (q 0)), none, some (.int (iz a1))]) 1 rfl ?_
      refine g_drop (lv' := [some (.ref (q 0)), none, none]) 2 rfl ?_
      exact wX2_tellOfThing_68 hX 0 Y5
    · refine g_aload_n hX dX2_tellOfThing_58 (rfl : 58 + 1 = 59) rfl ?_
      refine ge_S_X2_24_S hX dX2_tellOfThing_59 (rfl : 59 + 3 = 62) ?_
      refine g_iload_n hX dX2_tellOfThing_62 (rfl : 62 + 1 = 63) rfl ?_
      refine al_S_S_5 hX dX2_tellOfThing_63 (rfl : 63 + 1 = 64) ?_
      refine g_goto (pc' := 68) hX dX2_tellOfThing_64 (by decide) ?_
      refine g_drop (lv' := [some (.ref (q 0)), none, some (.int (iz a1))]) 1 rfl ?_
      refine g_drop (lv' := [some (.ref (q 0)), none, none]) 2 rfl ?_
      exact wX2_tellOfThing_68 hX ((Y5.1.2 5 (Int.toNat a0))) Y5
  refine g_ite (fun c7 => ?_) (fun c7 => ?_)
  · refine g_tab (tgt := 69) hX c7 dX2_tellOfThing_1 (by decide) (by decide) rfl (by decide) ?_
    refine g_aload_n hX dX2_tellOfThing_69 (rfl : 69 + 1 = 70) rfl ?_
    refine ge_S_X2_56_S hX dX2_tellOfThing_70 (rfl : 70 + 3 = 73) ?_
    refine g_iload_n hX dX2_tellOfThing_73 (rfl : 73 + 1 = 74) rfl ?_
    refine g_ishr hX dX2_tellOfThing_74 (rfl : 74 + 1 = 75) ?_
    refine g_iconst hX dX2_tellOfThing_75 (rfl : 75 + 1 = 76) ?_
    refine g_iand hX dX2_tellOfThing_76 (rfl : 76 + 1 = 77) ?_
    exact g_iret hX dX2_tellOfThing_77
  refine g_ite (fun c8 => ?_) (fun c8 => ?_)
  · refine g_tab (tgt := 78) hX c8 dX2_tellOfThing_1 (by decide) (by decide) rfl (by decide) ?_
    refine g_aload_n hX dX2_tellOfThing_78 (rfl : 78 + 1 = 79) rfl ?_
    refine g_iload_n hX dX2_tellOfThing_79 (rfl : 79 + 1 = 80) rfl ?_
    refine ci_SS hX (kX2_lies _ _ _ (q) (qr) _ _) mw_X2_98 (by decide) rfl rfl (Nat.le_of_ble_eq_true rfl) dX2_tellOfThing_80 (rfl : 80 + 3 = 83) (fun r10 Y9 => ?_)
    refine g_if_eq (tgt := 95) hX dX2_tellOfThing_83 (by decide) (rfl : 83 + 3 = 86) ?_ ?_
    · refine g_iconst hX dX2_tellOfThing_95 (rfl : 95 + 1 = 96) ?_
      refine g_drop (lv' := [some (.ref (q 0)), none, some (.int (iz a1))]) 1 rfl ?_
      refine g_drop (lv' := [some (.ref (q 0)), none, none]) 2 rfl ?_
      exact wX2_tellOfThing_96 hX ((-1)) Y9
    · refine g_aload_n hX dX2_tellOfThing_86 (rfl : 86 + 1 = 87) rfl ?_
      refine ge_S_X2_30_S hX dX2_tellOfThing_87 (rfl : 87 + 3 = 90) ?_
      refine g_iload_n hX dX2_tellOfThing_90 (rfl : 90 + 1 = 91) rfl ?_
      refine al_S_S_7 hX dX2_tellOfThing_91 (rfl : 91 + 1 = 92) ?_
      refine g_goto (pc' := 96) hX dX2_tellOfThing_92 (by decide) ?_
      refine g_drop (lv' := [some (.ref (q 0)), none, some (.int (iz a1))]) 1 rfl ?_
      refine g_drop (lv' := [some (.ref (q 0)), none, none]) 2 rfl ?_
      exact wX2_tellOfThing_96 hX ((Y9.1.2 7 (Int.toNat a0))) Y9
  refine g_ite (fun c11 => ?_) (fun c11 => ?_)
  · refine g_tab (tgt := 97) hX c11 dX2_tellOfThing_1 (by decide) (by decide) rfl (by decide) ?_
    refine g_aload_n hX dX2_tellOfThing_97 (rfl : 97 + 1 = 98) rfl ?_
    refine ge_S_X2_9_S hX dX2_tellOfThing_98 (rfl : 98 + 3 = 101) ?_
    refine g_iload_n hX dX2_tellOfThing_101 (rfl : 101 + 1 = 102) rfl ?_
    refine al_S_S_1 hX dX2_tellOfThing_102 (rfl : 102 + 1 = 103) ?_
    exact g_iret hX dX2_tellOfThing_103
  refine g_tabD (tgt := 104) hX dX2_tellOfThing_1 (by omega) (by decide) ?_
  refine g_aload_n hX dX2_tellOfThing_104 (rfl : 104 + 1 = 105) rfl ?_
  refine g_iload_n hX dX2_tellOfThing_105 (rfl : 105 + 1 = 106) rfl ?_
  refine ci_SS hX (kX2_lies _ _ _ (q) (qr) _ _) mw_X2_98 (by decide) rfl rfl (Nat.le_of_ble_eq_true rfl) dX2_tellOfThing_106 (rfl : 106 + 3 = 109) (fun r13 Y12 => ?_)
  refine g_if_eq (tgt := 121) hX dX2_tellOfThing_109 (by decide) (rfl : 109 + 3 = 112) ?_ ?_
  · refine g_iconst hX dX2_tellOfThing_121 (rfl : 121 + 1 = 122) ?_
    refine g_drop (lv' := [some (.ref (q 0)), none, some (.int (iz a1))]) 1 rfl ?_
    refine g_drop (lv' := [some (.ref (q 0)), none, none]) 2 rfl ?_
    exact wX2_tellOfThing_122 hX 0 Y12
  · refine g_aload_n hX dX2_tellOfThing_112 (rfl : 112 + 1 = 113) rfl ?_
    refine ge_S_X2_27_S hX dX2_tellOfThing_113 (rfl : 113 + 3 = 116) ?_
    refine g_iload_n hX dX2_tellOfThing_116 (rfl : 116 + 1 = 117) rfl ?_
    refine al_S_S_6 hX dX2_tellOfThing_117 (rfl : 117 + 1 = 118) ?_
    refine g_goto (pc' := 122) hX dX2_tellOfThing_118 (by decide) ?_
    refine g_drop (lv' := [some (.ref (q 0)), none, some (.int (iz a1))]) 1 rfl ?_
    refine g_drop (lv' := [some (.ref (q 0)), none, none]) 2 rfl ?_
    exact wX2_tellOfThing_122 hX ((Y12.1.2 6 (Int.toNat a0))) Y12
set_option maxRecDepth 100000 in
theorem wX2_knowsOfAll_89 {X : Cx} {D : va_G} {y : ClassId × ClassId × ClassId} {q qr : Nat → Nat} (hX : OKX X cX2_knowsOfAll RX2 (rmk 0) (some .boolean) D y) (s0 : Int) (Y : St × St) : GF X cX2_knowsOfAll D (0, 0) (QI X D y (wS y q qr)) (fX2_knowsOfAll_j89 s0 Y) 89 [some (.ref (q 0)), none] [.int (iz s0)] (wS y q qr Y) := by
  unfold fX2_knowsOfAll_j89
  exact g_zret hX dX2_knowsOfAll_89
set_option maxRecDepth 100000 in
theorem wX2_knowsOfAll_74 {X : Cx} {D : va_G} {y : ClassId × ClassId × ClassId} {q qr : Nat → Nat} (hX : OKX X cX2_knowsOfAll RX2 (rmk 0) (some .boolean) D y) (s0 : Int) (Y : St × St) : GF X cX2_knowsOfAll D (0, 0) (QI X D y (wS y q qr)) (fX2_knowsOfAll_j74 s0 Y) 74 [some (.ref (q 0)), none] [.int (iz s0)] (wS y q qr Y) := by
  unfold fX2_knowsOfAll_j74
  exact g_zret hX dX2_knowsOfAll_74
set_option maxRecDepth 100000 in
theorem wX2_knowsOfAll_59 {X : Cx} {D : va_G} {y : ClassId × ClassId × ClassId} {q qr : Nat → Nat} (hX : OKX X cX2_knowsOfAll RX2 (rmk 0) (some .boolean) D y) (s0 : Int) (Y : St × St) : GF X cX2_knowsOfAll D (0, 0) (QI X D y (wS y q qr)) (fX2_knowsOfAll_j59 s0 Y) 59 [some (.ref (q 0)), none] [.int (iz s0)] (wS y q qr Y) := by
  unfold fX2_knowsOfAll_j59
  exact g_zret hX dX2_knowsOfAll_59
set_option maxRecDepth 100000 in
theorem wX2_knowsOfAll_45 {X : Cx} {D : va_G} {y : ClassId × ClassId × ClassId} {q qr : Nat → Nat} (hX : OKX X cX2_knowsOfAll RX2 (rmk 0) (some .boolean) D y) (s0 : Int) (Y : St × St) : GF X cX2_knowsOfAll D (0, 0) (QI X D y (wS y q qr)) (fX2_knowsOfAll_j45 s0 Y) 45 [some (.ref (q 0)), none] [.int (iz s0)] (wS y q qr Y) := by
  unfold fX2_knowsOfAll_j45
  exact g_zret hX dX2_knowsOfAll_45
set_option maxRecDepth 100000 in
theorem kX2_knowsOfAll (l : Launch) (D : va_G) (y : ClassId × ClassId × ClassId) (q qr : Nat → Nat) (Y : St × St) (a0 : Int) : CtI l D y yX2_knowsOfAll cX2_knowsOfAll 2 (some .boolean) (rmk 0) [.ref (q 0), .int (iz a0)] (wS y q qr) Y (fX2_knowsOfAll Y a0) := by
  refine ctI_of (own := RX2) rfl (by decide) (cat1 rfl) rfl (fun X hl hX => ?_)
  subst hl
  show GF X cX2_knowsOfAll D (0, 0) (QI X D y (wS y q qr)) (fX2_knowsOfAll Y a0) 0 [some (.ref (q 0)), some (.int (iz a0))] [] (wS y q qr Y)
  unfold fX2_knowsOfAll
  refine g_iload_n hX dX2_knowsOfAll_0 (rfl : 0 + 1 = 1) rfl ?_
  refine g_ite (fun c1 => ?_) (fun c1 => ?_)
  · refine g_tab (tgt := 32) hX c1 dX2_knowsOfAll_1 (by decide) (by decide) rfl (by decide) ?_
    refine g_aload_n hX dX2_knowsOfAll_32 (rfl : 32 + 1 = 33) rfl ?_
    refine ge_S_X2_44_S hX dX2_knowsOfAll_33 (rfl : 33 + 3 = 36) ?_
    refine g_iconst hX dX2_knowsOfAll_36 (rfl : 36 + 1 = 37) ?_
    refine g_icmp_ne (tgt := 44) hX dX2_knowsOfAll_37 (by decide) (rfl : 37 + 3 = 40) ?_ ?_
    · refine g_iconst hX dX2_knowsOfAll_44 (rfl : 44 + 1 = 45) ?_
      refine g_drop (lv' := [some (.ref (q 0)), none]) 1 rfl ?_
      exact wX2_knowsOfAll_45 hX 0 Y
    · refine g_iconst hX dX2_knowsOfAll_40 (rfl : 40 + 1 = 41) ?_
      refine g_goto (pc' := 45) hX dX2_knowsOfAll_41 (by decide) ?_
      refine g_drop (lv' := [some (.ref (q 0)), none]) 1 rfl ?_
      exact wX2_knowsOfAll_45 hX 1 Y
  refine g_ite (fun c2 => ?_) (fun c2 => ?_)
  · refine g_tab (tgt := 46) hX c2 dX2_knowsOfAll_1 (by decide) (by decide) rfl (by decide) ?_
    refine g_aload_n hX dX2_knowsOfAll_46 (rfl : 46 + 1 = 47) rfl ?_
    refine ge_S_X2_44_S hX dX2_knowsOfAll_47 (rfl : 47 + 3 = 50) ?_
    refine g_iconst hX dX2_knowsOfAll_50 (rfl : 50 + 1 = 51) ?_
    refine g_icmp_ne (tgt := 58) hX dX2_knowsOfAll_51 (by decide) (rfl : 51 + 3 = 54) ?_ ?_
    · refine g_iconst hX dX2_knowsOfAll_58 (rfl : 58 + 1 = 59) ?_
      refine g_drop (lv' := [some (.ref (q 0)), none]) 1 rfl ?_
      exact wX2_knowsOfAll_59 hX 0 Y
    · refine g_iconst hX dX2_knowsOfAll_54 (rfl : 54 + 1 = 55) ?_
      refine g_goto (pc' := 59) hX dX2_knowsOfAll_55 (by decide) ?_
      refine g_drop (lv' := [some (.ref (q 0)), none]) 1 rfl ?_
      exact wX2_knowsOfAll_59 hX 1 Y
  refine g_ite (fun c3 => ?_) (fun c3 => ?_)
  · refine g_tab (tgt := 60) hX c3 dX2_knowsOfAll_1 (by decide) (by decide) rfl (by decide) ?_
    refine g_aload_n hX dX2_knowsOfAll_60 (rfl : 60 + 1 = 61) rfl ?_
    refine ge_S_X2_44_S hX dX2_knowsOfAll_61 (rfl : 61 + 3 = 64) ?_
    refine g_bipush hX dX2_knowsOfAll_64 (by decide) (rfl : 64 + 2 = 66) ?_
    refine g_icmp_ne (tgt := 73) hX dX2_knowsOfAll_66 (by decide) (rfl : 66 + 3 = 69) ?_ ?_
    · refine g_iconst hX dX2_knowsOfAll_73 (rfl : 73 + 1 = 74) ?_
      refine g_drop (lv' := [some (.ref (q 0)), none]) 1 rfl ?_
      exact wX2_knowsOfAll_74 hX 0 Y
    · refine g_iconst hX dX2_knowsOfAll_69 (rfl : 69 + 1 = 70) ?_
      refine g_goto (pc' := 74) hX dX2_knowsOfAll_70 (by decide) ?_
      refine g_drop (lv' := [some (.ref (q 0)), none]) 1 rfl ?_
      exact wX2_knowsOfAll_74 hX 1 Y
  refine g_ite (fun c4 => ?_) (fun c4 => ?_)
  · refine g_tab (tgt := 75) hX c4 dX2_knowsOfAll_1 (by decide) (by decide) rfl (by decide) ?_
    refine g_aload_n hX dX2_knowsOfAll_75 (rfl : 75 + 1 = 76) rfl ?_
    refine ge_S_X2_44_S hX dX2_knowsOfAll_76 (rfl : 76 + 3 = 79) ?_
    refine g_bipush hX dX2_knowsOfAll_79 (by decide) (rfl : 79 + 2 = 81) ?_
    refine g_icmp_ne (tgt := 88) hX dX2_knowsOfAll_81 (by decide) (rfl : 81 + 3 = 84) ?_ ?_
    · refine g_iconst hX dX2_knowsOfAll_88 (rfl : 88 + 1 = 89) ?_
      refine g_drop (lv' := [some (.ref (q 0)), none]) 1 rfl ?_
      exact wX2_knowsOfAll_89 hX 0 Y
    · refine g_iconst hX dX2_knowsOfAll_84 (rfl : 84 + 1 = 85) ?_
      refine g_goto (pc' := 89) hX dX2_knowsOfAll_85 (by decide) ?_
      refine g_drop (lv' := [some (.ref (q 0)), none]) 1 rfl ?_
      exact wX2_knowsOfAll_89 hX 1 Y
  refine g_tabD (tgt := 90) hX dX2_knowsOfAll_1 (by omega) (by decide) ?_
  refine g_iconst hX dX2_knowsOfAll_90 (rfl : 90 + 1 = 91) ?_
  exact g_zret hX dX2_knowsOfAll_91
set_option maxRecDepth 100000 in
theorem kX2_tellOfAll (l : Launch) (D : va_G) (y : ClassId × ClassId × ClassId) (q qr : Nat → Nat) (Y : St × St) (a0 : Int) : CtI l D y yX2_tellOfAll cX2_tellOfAll 2 (some .int) (rmk 1) [.ref (q 0), .int (iz a0)] (wS y q qr) Y (fX2_tellOfAll Y a0) := by
  refine ctI_of (own := RX2) rfl (by decide) (cat1 rfl) rfl (fun X hl hX => ?_)
  subst hl
  show GF X cX2_tellOfAll D (0, 0) (QI X D y (wS y q qr)) (fX2_tellOfAll Y a0) 0 [some (.ref (q 0)), some (.int (iz a0))] [] (wS y q qr Y)
  unfold fX2_tellOfAll
  refine g_iload_n hX dX2_tellOfAll_0 (rfl : 0 + 1 = 1) rfl ?_
  refine g_ite (fun c1 => ?_) (fun c1 => ?_)
  · refine g_tab (tgt := 32) hX c1 dX2_tellOfAll_1 (by decide) (by decide) rfl (by decide) ?_
    refine g_aload_n hX dX2_tellOfAll_32 (rfl : 32 + 1 = 33) rfl ?_
    refine ge_S_X2_59_S hX dX2_tellOfAll_33 (rfl : 33 + 3 = 36) ?_
    exact g_iret hX dX2_tellOfAll_36
  refine g_ite (fun c2 => ?_) (fun c2 => ?_)
  · refine g_tab (tgt := 37) hX c2 dX2_tellOfAll_1 (by decide) (by decide) rfl (by decide) ?_
    refine g_aload_n hX dX2_tellOfAll_37 (rfl : 37 + 1 = 38) rfl ?_
    refine ge_S_X2_62_S hX dX2_tellOfAll_38 (rfl : 38 + 3 = 41) ?_
    exact g_iret hX dX2_tellOfAll_41
  refine g_ite (fun c3 => ?_) (fun c3 => ?_)
  · refine g_tab (tgt := 42) hX c3 dX2_tellOfAll_1 (by decide) (by decide) rfl (by decide) ?_
    refine g_aload_n hX dX2_tellOfAll_42 (rfl : 42 + 1 = 43) rfl ?_
    refine ge_S_X2_65_S hX dX2_tellOfAll_43 (rfl : 43 + 3 = 46) ?_
    exact g_iret hX dX2_tellOfAll_46
  refine g_ite (fun c4 => ?_) (fun c4 => ?_)
  · refine g_tab (tgt := 47) hX c4 dX2_tellOfAll_1 (by decide) (by decide) rfl (by decide) ?_
    refine g_aload_n hX dX2_tellOfAll_47 (rfl : 47 + 1 = 48) rfl ?_
    refine ge_S_X2_68_S hX dX2_tellOfAll_48 (rfl : 48 + 3 = 51) ?_
    exact g_iret hX dX2_tellOfAll_51
  refine g_tabD (tgt := 52) hX dX2_tellOfAll_1 (by omega) (by decide) ?_
  refine g_aload_n hX dX2_tellOfAll_52 (rfl : 52 + 1 = 53) rfl ?_
  refine ci_SS hX (kX2_lying _ _ _ (q) (qr) _) mw_X2_122 (by decide) rfl rfl (Nat.le_of_ble_eq_true rfl) dX2_tellOfAll_53 (rfl : 53 + 3 = 56) (fun r6 Y5 => ?_)
  exact g_iret hX dX2_tellOfAll_56
