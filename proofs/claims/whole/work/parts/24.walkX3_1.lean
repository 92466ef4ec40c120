set_option maxRecDepth 100000 in
theorem kX3_cost (l : Launch) (D : va_G) (y : ClassId × ClassId × ClassId) (q : Nat → Nat) (Y : St × St × St × St × St) (a0 : Int) : CtI l D y yX3_cost cX3_cost 6 (some .int) (rmk 2) [.ref (q 0), .int (iz a0)] (wJ y q) Y (fX3_cost Y a0) := by
  refine ctI_of (own := RX3) rfl (by decide) (cat1 rfl) rfl (fun X hl hX => ?_)
  subst hl
  show GF X cX3_cost D (0, 0) (QI X D y (wJ y q)) (fX3_cost Y a0) 0 [some (.ref (q 0)), some (.int (iz a0)), none, none, none, none] [] (wJ y q Y)
  unfold fX3_cost
  refine g_iload_n hX dX3_cost_0 (rfl : 0 + 1 = 1) rfl ?_
  refine g_callp hX (kX3_isPlaces _ _ _ _) mw_X3_90 (by decide) rfl rfl (Nat.le_of_ble_eq_true rfl) dX3_cost_1 (rfl : 1 + 3 = 4) (fun r1 => ?_)
  refine g_if_ne (tgt := 9) hX dX3_cost_4 (by decide) (rfl : 4 + 3 = 7) ?_ ?_
  · refine g_iconst hX dX3_cost_9 (rfl : 9 + 1 = 10) ?_
    refine g_istore_n (lv' := fun x2 => [some (.ref (q 0)), some (.int (iz a0)), some (.int (iz x2)), none, none, none]) hX dX3_cost_10 (rfl : 10 + 1 = 11) rfl (fun _ => rfl) (fun x2 => ?_)
    refine g_iconst hX dX3_cost_11 (rfl : 11 + 1 = 12) ?_
    refine g_istore_n (lv' := fun x3 => [some (.ref (q 0)), some (.int (iz a0)), some (.int (iz x2)), some (.int (iz x3)), none, none]) hX dX3_cost_12 (rfl : 12 + 1 = 13) rfl (fun _ => rfl) (fun x3 => ?_)
    refine g_iconst hX dX3_cost_13 (rfl : 13 + 1 = 14) ?_
    refine g_istore (lv' := fun x4 => [some (.ref (q 0)), some (.int (iz a0)), some (.int (iz x2)), some (.int (iz x3)), some (.int (iz x4)), none]) hX dX3_cost_14 (rfl : 14 + 2 = 16) rfl (fun _ => rfl) (fun x4 => ?_)
    exact wX3_cost_16 hX FU a0 x2 x3 x4 Y
  · refine g_iconst hX dX3_cost_7 (rfl : 7 + 1 = 8) ?_
    exact g_iret hX dX3_cost_8
set_option maxRecDepth 100000 in
theorem wX3_check_96 {X : Cx} {D : va_G} {y : ClassId × ClassId × ClassId} {q : Nat → Nat} (hX : OKX X cX3_check RX3 (rmk 5) (some .int) D y) (s0 : Int) (Y : St × St × St × St × St) : GF X cX3_check D (0, 0) (QI X D y (wJ y q)) (fX3_check_j96 s0 Y) 96 [some (.ref (q 0)), none, none, none] [.int (iz s0)] (wJ y q Y) := by
  unfold fX3_check_j96
  exact g_iret hX dX3_check_96
set_option maxRecDepth 100000 in
theorem wX3_check_71 {X : Cx} {D : va_G} {y : ClassId × ClassId × ClassId} {q : Nat → Nat} (hX : OKX X cX3_check RX3 (rmk 5) (some .int) D y) (Y : St × St × St × St × St) : GF X cX3_check D (0, 0) (QI X D y (wJ y q)) (fX3_check_j71  Y) 71 [some (.ref (q 0)), none, none, none] [] (wJ y q Y) := by
  unfold fX3_check_j71
  refine g_aload_n hX dX3_check_71 (rfl : 71 + 1 = 72) rfl ?_
  refine ge_J_X3_48_J hX dX3_check_72 (rfl : 72 + 3 = 75) ?_
  refine g_aload_n hX dX3_check_75 (rfl : 75 + 1 = 76) rfl ?_
  refine ge_J_X3_10_J hX dX3_check_76 (rfl : 76 + 3 = 79) ?_
  refine ge_J_X3_66_R hX dX3_check_79 (rfl : 79 + 3 = 82) ?_
  refine g_icmp_le (tgt := 95) hX dX3_check_82 (by decide) (rfl : 82 + 3 = 85) ?_ ?_
  · refine g_iconst hX dX3_check_95 (rfl : 95 + 1 = 96) ?_
    exact wX3_check_96 hX ((-1)) Y
  · refine g_aload_n hX dX3_check_85 (rfl : 85 + 1 = 86) rfl ?_
    refine ge_J_X3_10_J hX dX3_check_86 (rfl : 86 + 3 = 89) ?_
    refine ge_J_X3_66_R hX dX3_check_89 (rfl : 89 + 3 = 92) ?_
    refine g_goto (pc' := 96) hX dX3_check_92 (by decide) ?_
    exact wX3_check_96 hX ((Y.2.1.1 4)) Y
set_option maxRecDepth 100000 in
theorem wX3_check_63 {X : Cx} {D : va_G} {y : ClassId × ClassId × ClassId} {q : Nat → Nat} (hX : OKX X cX3_check RX3 (rmk 5) (some .int) D y) (v3 : Int) (Y : St × St × St × St × St) : GF X cX3_check D (0, 0) (QI X D y (wJ y q)) (fX3_check_j63 v3 Y) 63 [some (.ref (q 0)), none, none, some (.int (iz v3))] [] (wJ y q Y) := by
  unfold fX3_check_j63
  refine g_iload_n hX dX3_check_63 (rfl : 63 + 1 = 64) rfl ?_
  exact g_iret hX dX3_check_64
set_option maxRecDepth 100000 in
theorem wX3_check_28 {X : Cx} {D : va_G} {y : ClassId × ClassId × ClassId} {q : Nat → Nat} (hX : OKX X cX3_check RX3 (rmk 5) (some .int) D y) : ∀ (n : Nat) (v3 : Int) (Y : St × St × St × St × St), GF X cX3_check D (0, 0) (QI X D y (wJ y q)) (fX3_check_l28 n v3 Y) 28 [some (.ref (q 0)), none, none, some (.int (iz v3))] [] (wJ y q Y) := by
  intro n
  induction n with
  | zero => intro v3 Y; exact g_none
  | succ n hk_28 =>
    intro v3 Y
    unfold fX3_check_l28
    refine g_iload_n hX dX3_check_28 (rfl : 28 + 1 = 29) rfl ?_
    refine g_aload_n hX dX3_check_29 (rfl : 29 + 1 = 30) rfl ?_
    refine ge_J_X3_10_J hX dX3_check_30 (rfl : 30 + 3 = 33) ?_
    refine ge_J_X3_66_R hX dX3_check_33 (rfl : 33 + 3 = 36) ?_
    refine g_icmp_ge (tgt := 71) hX dX3_check_36 (by decide) (rfl : 36 + 3 = 39) ?_ ?_
    · refine g_drop (lv' := [some (.ref (q 0)), none, none, none]) 3 rfl ?_
      exact wX3_check_71 hX  Y
    · refine g_iload_n hX dX3_check_39 (rfl : 39 + 1 = 40) rfl ?_
      refine g_aload_n hX dX3_check_40 (rfl : 40 + 1 = 41) rfl ?_
      refine ge_J_X3_48_J hX dX3_check_41 (rfl : 41 + 3 = 44) ?_
      refine g_icmp_ge (tgt := 63) hX dX3_check_44 (by decide) (rfl : 44 + 3 = 47) ?_ ?_
      · exact wX3_check_63 hX v3 Y
      · refine g_aload_n hX dX3_check_47 (rfl : 47 + 1 = 48) rfl ?_
        refine ge_J_X3_39_J hX dX3_check_48 (rfl : 48 + 3 = 51) ?_
        refine g_iload_n hX dX3_check_51 (rfl : 51 + 1 = 52) rfl ?_
        refine al_J_J_5 hX dX3_check_52 (rfl : 52 + 1 = 53) ?_
        refine g_aload_n hX dX3_check_53 (rfl : 53 + 1 = 54) rfl ?_
        refine ge_J_X3_25_J hX dX3_check_54 (rfl : 54 + 3 = 57) ?_
        refine ci_JV hX (kX2_step _ _ _ (fun k => q (k + 19)) (fun k => q (k + 5)) _) mw_X3_103 (by decide) rfl rfl (Nat.le_of_ble_eq_true rfl) dX3_check_57 (rfl : 57 + 3 = 60) (fun r102 Y101 => ?_)
        refine g_icmp_eq (tgt := 65) hX dX3_check_60 (by decide) (rfl : 60 + 3 = 63) ?_ ?_
        · refine g_iinc (lv' := fun x103 => [some (.ref (q 0)), none, none, some (.int (iz x103))]) hX dX3_check_65 (rfl : 65 + 3 = 68) rfl (fun _ => rfl) (fun x103 => ?_)
          refine g_goto (pc' := 28) hX dX3_check_68 (by decide) ?_
          exact hk_28 x103 Y101
        · exact wX3_check_63 hX v3 Y101
set_option maxRecDepth 100000 in
theorem wX3_check_14 {X : Cx} {D : va_G} {y : ClassId × ClassId × ClassId} {q : Nat → Nat} (hX : OKX X cX3_check RX3 (rmk 5) (some .int) D y) (Y : St × St × St × St × St) : GF X cX3_check D (0, 0) (QI X D y (wJ y q)) (fX3_check_j14  Y) 14 [some (.ref (q 0)), none, none, none] [] (wJ y q Y) := by
  unfold fX3_check_j14
  refine g_bipush hX dX3_check_14 (by decide) (rfl : 14 + 2 = 16) ?_
  exact g_iret hX dX3_check_16
set_option maxRecDepth 100000 in
theorem kX3_check (l : Launch) (D : va_G) (y : ClassId × ClassId × ClassId) (q : Nat → Nat) (Y : St × St × St × St × St) (a0 a1 : Int) : CtI l D y yX3_check cX3_check 4 (some .int) (rmk 5) [.ref (q 0), .int (iz a0), .int (iz a1)] (wJ y q) Y (fX3_check Y a0 a1) := by
  refine ctI_of (own := RX3) rfl (by decide) (cat1 rfl) rfl (fun X hl hX => ?_)
  subst hl
  show GF X cX3_check D (0, 0) (QI X D y (wJ y q)) (fX3_check Y a0 a1) 0 [some (.ref (q 0)), some (.int (iz a0)), some (.int (iz a1)), none] [] (wJ y q Y)
  unfold fX3_check
  refine g_iload_n hX dX3_check_0 (rfl : 0 + 1 = 1) rfl ?_
  refine g_callp hX (kX3_isWay _ _ _ _) mw_X3_87 (by decide) rfl rfl (Nat.le_of_ble_eq_true rfl) dX3_check_1 (rfl : 1 + 3 = 4) (fun r1 => ?_)
  refine g_if_eq (tgt := 14) hX dX3_check_4 (by decide) (rfl : 4 + 3 = 7) ?_ ?_
  · refine g_drop (lv' := [some (.ref (q 0)), none, some (.int (iz a1)), none]) 1 rfl ?_
    refine g_drop (lv' := [some (.ref (q 0)), none, none, none]) 2 rfl ?_
    exact wX3_check_14 hX  Y
  · refine g_iload_n hX dX3_check_7 (rfl : 7 + 1 = 8) rfl ?_
    refine g_callp hX (kX3_isPlaces _ _ _ _) mw_X3_90 (by decide) rfl rfl (Nat.le_of_ble_eq_true rfl) dX3_check_8 (rfl : 8 + 3 = 11) (fun r2 => ?_)
    refine g_if_ne (tgt := 17) hX dX3_check_11 (by decide) (rfl : 11 + 3 = 14) ?_ ?_
    · refine g_aload_n hX dX3_check_17 (rfl : 17 + 1 = 18) rfl ?_
      refine ge_J_X3_25_J hX dX3_check_18 (rfl : 18 + 3 = 21) ?_
      refine g_iload_n hX dX3_check_21 (rfl : 21 + 1 = 22) rfl ?_
      refine g_iload_n hX dX3_check_22 (rfl : 22 + 1 = 23) rfl ?_
      refine cv_JV hX (kX2_begin _ _ _ (fun k => q (k + 19)) (fun k => q (k + 5)) _ _ _) mw_X3_93 (by decide) rfl rfl (Nat.le_of_ble_eq_true rfl) dX3_check_23 (rfl : 23 + 3 = 26) (fun Y3 => ?_)
      refine g_iconst hX dX3_check_26 (rfl : 26 + 1 = 27) ?_
      refine g_istore_n (lv' := fun x4 => [some (.ref (q 0)), some (.int (iz a0)), some (.int (iz a1)), some (.int (iz x4))]) hX dX3_check_27 (rfl : 27 + 1 = 28) rfl (fun _ => rfl) (fun x4 => ?_)
      refine g_drop (lv' := [some (.ref (q 0)), none, some (.int (iz a1)), some (.int (iz x4))]) 1 rfl ?_
      refine g_drop (lv' := [some (.ref (q 0)), none, none, some (.int (iz x4))]) 2 rfl ?_
      exact wX3_check_28 hX FU x4 Y3
    · refine g_drop (lv' := [some (.ref (q 0)), none, some (.int (iz a1)), none]) 1 rfl ?_
      refine g_drop (lv' := [some (.ref (q 0)), none, none, none]) 2 rfl ?_
      exact wX3_check_14 hX  Y
