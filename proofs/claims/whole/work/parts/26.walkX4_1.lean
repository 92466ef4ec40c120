set_option maxRecDepth 100000 in
theorem kX4_askedNext (l : Launch) (D : va_G) (y : ClassId × ClassId × ClassId) (q : Nat → Nat) (Y : St) (a0 a1 : Int) : CtI l D y yX4_askedNext cX4_askedNext 4 (some .int) (rmk 0) [.ref (q 0), .int (iz a0), .int (iz a1)] (wM y q) Y (fX4_askedNext Y a0 a1) := by
  refine ctI_of (own := RX4) rfl (by decide) (cat1 rfl) rfl (fun X hl hX => ?_)
  subst hl
  show GF X cX4_askedNext D (0, 0) (QI X D y (wM y q)) (fX4_askedNext Y a0 a1) 0 [some (.ref (q 0)), some (.int (iz a0)), some (.int (iz a1)), none] [] (wM y q Y)
  unfold fX4_askedNext
  refine g_iload_n hX dX4_askedNext_0 (rfl : 0 + 1 = 1) rfl ?_
  refine g_iconst hX dX4_askedNext_1 (rfl : 1 + 1 = 2) ?_
  refine g_iadd hX dX4_askedNext_2 (rfl : 2 + 1 = 3) ?_
  refine g_istore_n (lv' := fun x1 => [some (.ref (q 0)), some (.int (iz a0)), some (.int (iz a1)), some (.int (iz x1))]) hX dX4_askedNext_3 (rfl : 3 + 1 = 4) rfl (fun _ => rfl) (fun x1 => ?_)
  refine g_drop (lv' := [some (.ref (q 0)), some (.int (iz a0)), none, some (.int (iz x1))]) 2 rfl ?_
  exact wX4_askedNext_4 hX FU a0 x1 Y
set_option maxRecDepth 100000 in
theorem wX4_latestAhead_65 {X : Cx} {D : va_G} {y : ClassId × ClassId × ClassId} {q : Nat → Nat} (hX : OKX X cX4_latestAhead RX4 (rmk 1) (some .int) D y) (v2 : Int) (Y : St) : GF X cX4_latestAhead D (0, 0) (QI X D y (wM y q)) (fX4_latestAhead_j65 v2 Y) 65 [some (.ref (q 0)), none, some (.int (iz v2)), none, none, none] [] (wM y q Y) := by
  unfold fX4_latestAhead_j65
  refine g_iload_n hX dX4_latestAhead_65 (rfl : 65 + 1 = 66) rfl ?_
  exact g_iret hX dX4_latestAhead_66
set_option maxRecDepth 100000 in
theorem wX4_latestAhead_59 {X : Cx} {D : va_G} {y : ClassId × ClassId × ClassId} {q : Nat → Nat} (hX : OKX X cX4_latestAhead RX4 (rmk 1) (some .int) D y) {k_7 : Int → Int → Int → Int → (St) → Option (Int × (St))} (hk_7 : ∀ (v1 v2 v3 v4 : Int) (Y : St), GF X cX4_latestAhead D (0, 0) (QI X D y (wM y q)) (k_7 v1 v2 v3 v4 Y) 7 [some (.ref (q 0)), some (.int (iz v1)), some (.int (iz v2)), some (.int (iz v3)), some (.int (iz v4)), none] [] (wM y q Y)) (v1 v2 v3 v4 : Int) (Y : St) : GF X cX4_latestAhead D (0, 0) (QI X D y (wM y q)) (fX4_latestAhead_j59 k_7 v1 v2 v3 v4 Y) 59 [some (.ref (q 0)), some (.int (iz v1)), some (.int (iz v2)), some (.int (iz v3)), some (.int (iz v4)), none] [] (wM y q Y) := by
  unfold fX4_latestAhead_j59
  refine g_iinc (lv' := fun x101 => [some (.ref (q 0)), some (.int (iz v1)), some (.int (iz v2)), some (.int (iz v3)), some (.int (iz x101)), none]) hX dX4_latestAhead_59 (rfl : 59 + 3 = 62) rfl (fun _ => rfl) (fun x101 => ?_)
  refine g_goto (pc' := 7) hX dX4_latestAhead_62 (by decide) ?_
  exact hk_7 v1 v2 v3 x101 Y
set_option maxRecDepth 100000 in
theorem wX4_latestAhead_58 {X : Cx} {D : va_G} {y : ClassId × ClassId × ClassId} {q : Nat → Nat} (hX : OKX X cX4_latestAhead RX4 (rmk 1) (some .int) D y) {k_7 : Int → Int → Int → Int → (St) → Option (Int × (St))} (hk_7 : ∀ (v1 v2 v3 v4 : Int) (Y : St), GF X cX4_latestAhead D (0, 0) (QI X D y (wM y q)) (k_7 v1 v2 v3 v4 Y) 7 [some (.ref (q 0)), some (.int (iz v1)), some (.int (iz v2)), some (.int (iz v3)), some (.int (iz v4)), none] [] (wM y q Y)) (v1 v2 v4 s0 : Int) (Y : St) : GF X cX4_latestAhead D (0, 0) (QI X D y (wM y q)) (fX4_latestAhead_j58 k_7 v1 v2 v4 s0 Y) 58 [some (.ref (q 0)), some (.int (iz v1)), some (.int (iz v2)), none, some (.int (iz v4)), none] [.int (iz s0)] (wM y q Y) := by
  unfold fX4_latestAhead_j58
  refine g_istore_n (lv' := fun x102 => [some (.ref (q 0)), some (.int (iz v1)), some (.int (iz v2)), some (.int (iz x102)), some (.int (iz v4)), none]) hX dX4_latestAhead_58 (rfl : 58 + 1 = 59) rfl (fun _ => rfl) (fun x102 => ?_)
  exact wX4_latestAhead_59 hX hk_7 v1 v2 x102 v4 Y
set_option maxRecDepth 100000 in
theorem wX4_latestAhead_45 {X : Cx} {D : va_G} {y : ClassId × ClassId × ClassId} {q : Nat → Nat} (hX : OKX X cX4_latestAhead RX4 (rmk 1) (some .int) D y) {k_7 : Int → Int → Int → Int → (St) → Option (Int × (St))} (hk_7 : ∀ (v1 v2 v3 v4 : Int) (Y : St), GF X cX4_latestAhead D (0, 0) (QI X D y (wM y q)) (k_7 v1 v2 v3 v4 Y) 7 [some (.ref (q 0)), some (.int (iz v1)), some (.int (iz v2)), some (.int (iz v3)), some (.int (iz v4)), none] [] (wM y q Y)) (v1 v3 v4 v5 s0 : Int) (Y : St) : GF X cX4_latestAhead D (0, 0) (QI X D y (wM y q)) (fX4_latestAhead_j45 k_7 v1 v3 v4 v5 s0 Y) 45 [some (.ref (q 0)), some (.int (iz v1)), none, some (.int (iz v3)), some (.int (iz v4)), some (.int (iz v5))] [.int (iz s0)] (wM y q Y) := by
  unfold fX4_latestAhead_j45
  refine g_istore_n (lv' := fun x103 => [some (.ref (q 0)), some (.int (iz v1)), some (.int (iz x103)), some (.int (iz v3)), some (.int (iz v4)), some (.int (iz v5))]) hX dX4_latestAhead_45 (rfl : 45 + 1 = 46) rfl (fun _ => rfl) (fun x103 => ?_)
  refine g_iload hX dX4_latestAhead_46 (rfl : 46 + 2 = 48) rfl ?_
  refine g_iload_n hX dX4_latestAhead_48 (rfl : 48 + 1 = 49) rfl ?_
  refine g_icmp_le (tgt := 57) hX dX4_latestAhead_49 (by decide) (rfl : 49 + 3 = 52) ?_ ?_
  · refine g_iload_n hX dX4_latestAhead_57 (rfl : 57 + 1 = 58) rfl ?_
    refine g_drop (lv' := [some (.ref (q 0)), some (.int (iz v1)), some (.int (iz x103)), none, some (.int (iz v4)), some (.int (iz v5))]) 3 rfl ?_
    refine g_drop (lv' := [some (.ref (q 0)), some (.int (iz v1)), some (.int (iz x103)), none, some (.int (iz v4)), none]) 5 rfl ?_
    exact wX4_latestAhead_58 hX hk_7 v1 x103 v4 v3 Y
  · refine g_iload hX dX4_latestAhead_52 (rfl : 52 + 2 = 54) rfl ?_
    refine g_goto (pc' := 58) hX dX4_latestAhead_54 (by decide) ?_
    refine g_drop (lv' := [some (.ref (q 0)), some (.int (iz v1)), some (.int (iz x103)), none, some (.int (iz v4)), some (.int (iz v5))]) 3 rfl ?_
    refine g_drop (lv' := [some (.ref (q 0)), some (.int (iz v1)), some (.int (iz x103)), none, some (.int (iz v4)), none]) 5 rfl ?_
    exact wX4_latestAhead_58 hX hk_7 v1 x103 v4 v5 Y
set_option maxRecDepth 100000 in
theorem wX4_latestAhead_7 {X : Cx} {D : va_G} {y : ClassId × ClassId × ClassId} {q : Nat → Nat} (hX : OKX X cX4_latestAhead RX4 (rmk 1) (some .int) D y) : ∀ (n : Nat) (v1 v2 v3 v4 : Int) (Y : St), GF X cX4_latestAhead D (0, 0) (QI X D y (wM y q)) (fX4_latestAhead_l7 n v1 v2 v3 v4 Y) 7 [some (.ref (q 0)), some (.int (iz v1)), some (.int (iz v2)), some (.int (iz v3)), some (.int (iz v4)), none] [] (wM y q Y) := by
  intro n
  induction n with
  | zero => intro v1 v2 v3 v4 Y; exact g_none
  | succ n hk_7 =>
    intro v1 v2 v3 v4 Y
    unfold fX4_latestAhead_l7
    refine g_iload hX dX4_latestAhead_7 (rfl : 7 + 2 = 9) rfl ?_
    refine g_bipush hX dX4_latestAhead_9 (by decide) (rfl : 9 + 2 = 11) ?_
    refine g_icmp_ge (tgt := 65) hX dX4_latestAhead_11 (by decide) (rfl : 11 + 3 = 14) ?_ ?_
    · refine g_drop (lv' := [some (.ref (q 0)), none, some (.int (iz v2)), some (.int (iz v3)), some (.int (iz v4)), none]) 1 rfl ?_
      refine g_drop (lv' := [some (.ref (q 0)), none, some (.int (iz v2)), none, some (.int (iz v4)), none]) 3 rfl ?_
      refine g_drop (lv' := [some (.ref (q 0)), none, some (.int (iz v2)), none, none, none]) 4 rfl ?_
      exact wX4_latestAhead_65 hX v2 Y
    · refine g_aload_n hX dX4_latestAhead_14 (rfl : 14 + 1 = 15) rfl ?_
      refine ge_M_X4_28_M hX dX4_latestAhead_15 (rfl : 15 + 3 = 18) ?_
      refine g_iload hX dX4_latestAhead_18 (rfl : 18 + 2 = 20) rfl ?_
      refine al_M_M_13 hX dX4_latestAhead_20 (rfl : 20 + 1 = 21) ?_
      refine g_if_eq (tgt := 59) hX dX4_latestAhead_21 (by decide) (rfl : 21 + 3 = 24) ?_ ?_
      · exact wX4_latestAhead_59 hX hk_7 v1 v2 v3 v4 Y
      · refine g_aload_n hX dX4_latestAhead_24 (rfl : 24 + 1 = 25) rfl ?_
        refine g_iload hX dX4_latestAhead_25 (rfl : 25 + 2 = 27) rfl ?_
        refine g_iload_n hX dX4_latestAhead_27 (rfl : 27 + 1 = 28) rfl ?_
        refine ci_MM hX (kX4_askedNext _ _ _ (q) _ _ _) mw_X4_142 (by decide) rfl rfl (Nat.le_of_ble_eq_true rfl) dX4_latestAhead_28 (rfl : 28 + 3 = 31) (fun r105 Y104 => ?_)
        refine g_istore (lv' := fun x106 => [some (.ref (q 0)), some (.int (iz v1)), some (.int (iz v2)), some (.int (iz v3)), some (.int (iz v4)), some (.int (iz x106))]) hX dX4_latestAhead_31 (rfl : 31 + 2 = 33) rfl (fun _ => rfl) (fun x106 => ?_)
        refine g_iload hX dX4_latestAhead_33 (rfl : 33 + 2 = 35) rfl ?_
        refine g_iload_n hX dX4_latestAhead_35 (rfl : 35 + 1 = 36) rfl ?_
        refine g_icmp_le (tgt := 44) hX dX4_latestAhead_36 (by decide) (rfl : 36 + 3 = 39) ?_ ?_
        · refine g_iload_n hX dX4_latestAhead_44 (rfl : 44 + 1 = 45) rfl ?_
          refine g_drop (lv' := [some (.ref (q 0)), some (.int (iz v1)), none, some (.int (iz v3)), some (.int (iz v4)), some (.int (iz x106))]) 2 rfl ?_
          exact wX4_latestAhead_45 hX hk_7 v1 v3 v4 x106 v2 Y104
        · refine g_iload hX dX4_latestAhead_39 (rfl : 39 + 2 = 41) rfl ?_
          refine g_goto (pc' := 45) hX dX4_latestAhead_41 (by decide) ?_
          refine g_drop (lv' := [some (.ref (q 0)), some (.int (iz v1)), none, some (.int (iz v3)), some (.int (iz v4)), some (.int (iz x106))]) 2 rfl ?_
          exact wX4_latestAhead_45 hX hk_7 v1 v3 v4 x106 v4 Y104
set_option maxRecDepth 100000 in
theorem kX4_latestAhead (l : Launch) (D : va_G) (y : ClassId × ClassId × ClassId) (q : Nat → Nat) (Y : St) (a0 : Int) : CtI l D y yX4_latestAhead cX4_latestAhead 6 (some .int) (rmk 1) [.ref (q 0), .int (iz a0)] (wM y q) Y (fX4_latestAhead Y a0) := by
  refine ctI_of (own := RX4) rfl (by decide) (cat1 rfl) rfl (fun X hl hX => ?_)
  subst hl
  show GF X cX4_latestAhead D (0, 0) (QI X D y (wM y q)) (fX4_latestAhead Y a0) 0 [some (.ref (q 0)), some (.int (iz a0)), none, none, none, none] [] (wM y q Y)
  unfold fX4_latestAhead
  refine g_iconst hX dX4_latestAhead_0 (rfl : 0 + 1 = 1) ?_
  refine g_istore_n (lv' := fun x1 => [some (.ref (q 0)), some (.int (iz a0)), some (.int (iz x1)), none, none, none]) hX dX4_latestAhead_1 (rfl : 1 + 1 = 2) rfl (fun _ => rfl) (fun x1 => ?_)
  refine g_iconst hX dX4_latestAhead_2 (rfl : 2 + 1 = 3) ?_
  refine g_istore_n (lv' := fun x2 => [some (.ref (q 0)), some (.int (iz a0)), some (.int (iz x1)), some (.int (iz x2)), none, none]) hX dX4_latestAhead_3 (rfl : 3 + 1 = 4) rfl (fun _ => rfl) (fun x2 => ?_)
  refine g_iconst hX dX4_latestAhead_4 (rfl : 4 + 1 = 5) ?_
  refine g_istore (lv' := fun x3 => [some (.ref (q 0)), some (.int (iz a0)), some (.int (iz x1)), some (.int (iz x2)), some (.int (iz x3)), none]) hX dX4_latestAhead_5 (rfl : 5 + 2 = 7) rfl (fun _ => rfl) (fun x3 => ?_)
  exact wX4_latestAhead_7 hX FU a0 x1 x2 x3 Y
set_option maxRecDepth 100000 in
theorem wX4_chosen_83 {X : Cx} {D : va_G} {y : ClassId × ClassId × ClassId} {q : Nat → Nat} (hX : OKX X cX4_chosen RX4 (rmk 3) (some .int) D y) (v1 : Int) (Y : St) : GF X cX4_chosen D (0, 0) (QI X D y (wM y q)) (fX4_chosen_j83 v1 Y) 83 [some (.ref (q 0)), some (.int (iz v1))] [] (wM y q Y) := by
  unfold fX4_chosen_j83
  refine g_aload_n hX dX4_chosen_83 (rfl : 83 + 1 = 84) rfl ?_
  refine g_iload_n hX dX4_chosen_84 (rfl : 84 + 1 = 85) rfl ?_
  refine ci_MM hX (kX4_ofTwoParts _ _ _ (q) _ _) mw_X4_159 (by decide) rfl rfl (Nat.le_of_ble_eq_true rfl) dX4_chosen_85 (rfl : 85 + 3 = 88) (fun r102 Y101 => ?_)
  exact g_iret hX dX4_chosen_88
set_option maxRecDepth 100000 in
theorem kX4_chosen (l : Launch) (D : va_G) (y : ClassId × ClassId × ClassId) (q : Nat → Nat) (Y : St) (a0 : Int) : CtI l D y yX4_chosen cX4_chosen 2 (some .int) (rmk 3) [.ref (q 0), .int (iz a0)] (wM y q) Y (fX4_chosen Y a0) := by
  refine ctI_of (own := RX4) rfl (by decide) (cat1 rfl) rfl (fun X hl hX => ?_)
  subst hl
  show GF X cX4_chosen D (0, 0) (QI X D y (wM y q)) (fX4_chosen Y a0) 0 [some (.ref (q 0)), some (.int (iz a0))] [] (wM y q Y)
  unfold fX4_chosen
  refine g_aload_n hX dX4_chosen_0 (rfl : 0 + 1 = 1) rfl ?_
  refine ge_M_X4_103_M hX dX4_chosen_1 (rfl : 1 + 3 = 4) ?_
  refine g_ite (fun c1 => ?_) (fun c1 => ?_)
  · refine g_tab (tgt := 52) hX c1 dX4_chosen_4 (by decide) (by decide) rfl (by decide) ?_
    refine g_aload_n hX dX4_chosen_52 (rfl : 52 + 1 = 53) rfl ?_
    refine ci_MM hX (kX4_oldest _ _ _ (q) _) mw_X4_146 (by decide) rfl rfl (Nat.le_of_ble_eq_true rfl) dX4_chosen_53 (rfl : 53 + 3 = 56) (fun r3 Y2 => ?_)
    exact g_iret hX dX4_chosen_56
  refine g_ite (fun c4 => ?_) (fun c4 => ?_)
  · refine g_tab (tgt := 57) hX c4 dX4_chosen_4 (by decide) (by decide) rfl (by decide) ?_
    refine g_aload_n hX dX4_chosen_57 (rfl : 57 + 1 = 58) rfl ?_
    refine g_iconst hX dX4_chosen_58 (rfl : 58 + 1 = 59) ?_
    refine g_iconst hX dX4_chosen_59 (rfl : 59 + 1 = 60) ?_
    refine ci_MM hX (kX4_resting _ _ _ (q) _ _ _) mw_X4_124 (by decide) rfl rfl (Nat.le_of_ble_eq_true rfl) dX4_chosen_60 (rfl : 60 + 3 = 63) (fun r6 Y5 => ?_)
    exact g_iret hX dX4_chosen_63
  refine g_ite (fun c7 => ?_) (fun c7 => ?_)
  · refine g_tab (tgt := 64) hX c7 dX4_chosen_4 (by decide) (by decide) rfl (by decide) ?_
    refine g_aload_n hX dX4_chosen_64 (rfl : 64 + 1 = 65) rfl ?_
    refine ci_MM hX (kX4_unmarked _ _ _ (q) _) mw_X4_149 (by decide) rfl rfl (Nat.le_of_ble_eq_true rfl) dX4_chosen_65 (rfl : 65 + 3 = 68) (fun r9 Y8 => ?_)
    exact g_iret hX dX4_chosen_68
  refine g_ite (fun c10 => ?_) (fun c10 => ?_)
  · refine g_tab (tgt := 69) hX c10 dX4_chosen_4 (by decide) (by decide) rfl (by decide) ?_
    refine g_aload_n hX dX4_chosen_69 (rfl : 69 + 1 = 70) rfl ?_
    refine ci_MM hX (kX4_atHand _ _ _ (q) _) mw_X4_152 (by decide) rfl rfl (Nat.le_of_ble_eq_true rfl) dX4_chosen_70 (rfl : 70 + 3 = 73) (fun r12 Y11 => ?_)
    exact g_iret hX dX4_chosen_73
  refine g_ite (fun c13 => ?_) (fun c13 => ?_)
  · refine g_tab (tgt := 74) hX c13 dX4_chosen_4 (by decide) (by decide) rfl (by decide) ?_
    refine g_aload_n hX dX4_chosen_74 (rfl : 74 + 1 = 75) rfl ?_
    refine g_aload_n hX dX4_chosen_75 (rfl : 75 + 1 = 76) rfl ?_
    refine ge_M_X4_38_M hX dX4_chosen_76 (rfl : 76 + 3 = 79) ?_
    refine ci_MM hX (kX4_least_counts _ _ _ (q) _) mw_X4_155 (by decide) rfl rfl (Nat.le_of_ble_eq_true rfl) dX4_chosen_79 (rfl : 79 + 3 = 82) (fun r15 Y14 => ?_)
    exact g_iret hX dX4_chosen_82
  refine g_ite (fun c16 => ?_) (fun c16 => ?_)
  · refine g_tab (tgt := 83) hX c16 dX4_chosen_4 (by decide) (by decide) rfl (by decide) ?_
    exact wX4_chosen_83 hX a0 Y
  refine g_ite (fun c17 => ?_) (fun c17 => ?_)
  · refine g_tab (tgt := 83) hX c17 dX4_chosen_4 (by decide) (by decide) rfl (by decide) ?_
    exact wX4_chosen_83 hX a0 Y
  refine g_ite (fun c18 => ?_) (fun c18 => ?_)
  · refine g_tab (tgt := 89) hX c18 dX4_chosen_4 (by decide) (by decide) rfl (by decide) ?_
    refine g_aload_n hX dX4_chosen_89 (rfl : 89 + 1 = 90) rfl ?_
    refine g_aload_n hX dX4_chosen_90 (rfl : 90 + 1 = 91) rfl ?_
    refine ge_M_X4_53_M hX dX4_chosen_91 (rfl : 91 + 3 = 94) ?_
    refine ci_MM hX (kX4_least_credit _ _ _ (q) _) mw_X4_155 (by decide) rfl rfl (Nat.le_of_ble_eq_true rfl) dX4_chosen_94 (rfl : 94 + 3 = 97) (fun r20 Y19 => ?_)
    exact g_iret hX dX4_chosen_97
  refine g_tabD (tgt := 98) hX dX4_chosen_4 (by omega) (by decide) ?_
  refine g_aload_n hX dX4_chosen_98 (rfl : 98 + 1 = 99) rfl ?_
  refine g_iload_n hX dX4_chosen_99 (rfl : 99 + 1 = 100) rfl ?_
  refine ci_MM hX (kX4_latestAhead _ _ _ (q) _ _) mw_X4_162 (by decide) rfl rfl (Nat.le_of_ble_eq_true rfl) dX4_chosen_100 (rfl : 100 + 3 = 103) (fun r22 Y21 => ?_)
  exact g_iret hX dX4_chosen_103
set_option maxRecDepth 100000 in
theorem wX4_hit_61 {X : Cx} {D : va_G} {y : ClassId × ClassId × ClassId} {q : Nat → Nat} (hX : OKX X cX4_hit RX4 (rmk 0) none D y) (v1 : Int) (Y : St) : GF X cX4_hit D (0, 0) (QV X D y (wM y q)) (fX4_hit_j61 v1 Y) 61 [some (.ref (q 0)), some (.int (iz v1)), none] [] (wM y q Y) := by
  unfold fX4_hit_j61
  refine g_aload_n hX dX4_hit_61 (rfl : 61 + 1 = 62) rfl ?_
  refine ge_M_X4_53_M hX dX4_hit_62 (rfl : 62 + 3 = 65) ?_
  refine g_iload_n hX dX4_hit_65 (rfl : 65 + 1 = 66) rfl ?_
  refine g_aload_n hX dX4_hit_66 (rfl : 66 + 1 = 67) rfl ?_
  refine ge_M_X4_121_M hX dX4_hit_67 (rfl : 67 + 3 = 70) ?_
  refine g_aload_n hX dX4_hit_70 (rfl : 70 + 1 = 71) rfl ?_
  refine ge_M_X4_7_M hX dX4_hit_71 (rfl : 71 + 3 = 74) ?_
  refine g_iload_n hX dX4_hit_74 (rfl : 74 + 1 = 75) rfl ?_
  refine al_M_M_0 hX dX4_hit_75 (rfl : 75 + 1 = 76) ?_
  refine g_iadd hX dX4_hit_76 (rfl : 76 + 1 = 77) ?_
  refine as_M_M_21 hX dX4_hit_77 (rfl : 77 + 1 = 78) (fun Y101 => ?_)
  exact g_vret hX dX4_hit_78
set_option maxRecDepth 100000 in
theorem wX4_hit_36 {X : Cx} {D : va_G} {y : ClassId × ClassId × ClassId} {q : Nat → Nat} (hX : OKX X cX4_hit RX4 (rmk 0) none D y) (v1 v2 s0 s1 : Int) (Y : St) : GF X cX4_hit D (0, 0) (QV X D y (wM y q)) (fX4_hit_j36 v1 v2 s0 s1 Y) 36 [some (.ref (q 0)), some (.int (iz v1)), some (.int (iz v2))] [.int (iz s0), .int (iz s1), .ref (q 11)] (wM y q Y) := by
  unfold fX4_hit_j36
  refine as_M_M_17 hX dX4_hit_36 (rfl : 36 + 1 = 37) (fun Y102 => ?_)
  refine g_aload_n hX dX4_hit_37 (rfl : 37 + 1 = 38) rfl ?_
  refine ge_M_X4_47_M hX dX4_hit_38 (rfl : 38 + 3 = 41) ?_
  refine g_iload_n hX dX4_hit_41 (rfl : 41 + 1 = 42) rfl ?_
  refine al_M_M_19 hX dX4_hit_42 (rfl : 42 + 1 = 43) ?_
  refine g_iconst hX dX4_hit_43 (rfl : 43 + 1 = 44) ?_
  refine g_icmp_eq (tgt := 61) hX dX4_hit_44 (by decide) (rfl : 44 + 3 = 47) ?_ ?_
  · refine g_drop (lv' := [some (.ref (q 0)), some (.int (iz v1)), none]) 2 rfl ?_
    exact wX4_hit_61 hX v1 Y102
  · refine g_aload_n hX dX4_hit_47 (rfl : 47 + 1 = 48) rfl ?_
    refine ge_M_X4_47_M hX dX4_hit_48 (rfl : 48 + 3 = 51) ?_
    refine g_iload_n hX dX4_hit_51 (rfl : 51 + 1 = 52) rfl ?_
    refine g_iconst hX dX4_hit_52 (rfl : 52 + 1 = 53) ?_
    refine as_M_M_19 hX dX4_hit_53 (rfl : 53 + 1 = 54) (fun Y103 => ?_)
    refine g_aload_n hX dX4_hit_54 (rfl : 54 + 1 = 55) rfl ?_
    refine ge_M_X4_50_M hX dX4_hit_55 (rfl : 55 + 3 = 58) ?_
    refine g_iload_n hX dX4_hit_58 (rfl : 58 + 1 = 59) rfl ?_
    refine g_iload_n hX dX4_hit_59 (rfl : 59 + 1 = 60) rfl ?_
    refine as_M_M_20 hX dX4_hit_60 (rfl : 60 + 1 = 61) (fun Y104 => ?_)
    refine g_drop (lv' := [some (.ref (q 0)), some (.int (iz v1)), none]) 2 rfl ?_
    exact wX4_hit_61 hX v1 Y104
set_option maxRecDepth 100000 in
theorem wX4_hit_31 {X : Cx} {D : va_G} {y : ClassId × ClassId × ClassId} {q : Nat → Nat} (hX : OKX X cX4_hit RX4 (rmk 0) none D y) (v1 v2 s0 : Int) (Y : St) : GF X cX4_hit D (0, 0) (QV X D y (wM y q)) (fX4_hit_j31 v1 v2 s0 Y) 31 [some (.ref (q 0)), some (.int (iz v1)), some (.int (iz v2))] [.int (iz s0), .ref (q 11)] (wM y q Y) := by
  unfold fX4_hit_j31
  refine g_iconst hX dX4_hit_31 (rfl : 31 + 1 = 32) ?_
  refine g_goto (pc' := 36) hX dX4_hit_32 (by decide) ?_
  exact wX4_hit_36 hX v1 v2 1 s0 Y
set_option maxRecDepth 100000 in
theorem kX4_hit (l : Launch) (D : va_G) (y : ClassId × ClassId × ClassId) (q : Nat → Nat) (Y : St) (a0 a1 : Int) : CtV l D y yX4_hit cX4_hit 3 (rmk 0) [.ref (q 0), .int (iz a0), .int (iz a1)] (wM y q) Y (fX4_hit Y a0 a1) := by
  refine ctV_of (own := RX4) rfl (by decide) (cat1 rfl) rfl (fun X hl hX => ?_)
  subst hl
  show GF X cX4_hit D (0, 0) (QV X D y (wM y q)) (fX4_hit Y a0 a1) 0 [some (.ref (q 0)), some (.int (iz a0)), some (.int (iz a1))] [] (wM y q Y)
  unfold fX4_hit
  refine g_aload_n hX dX4_hit_0 (rfl : 0 + 1 = 1) rfl ?_
  refine ge_M_X4_38_M hX dX4_hit_1 (rfl : 1 + 3 = 4) ?_
  refine g_iload_n hX dX4_hit_4 (rfl : 4 + 1 = 5) rfl ?_
  refine g_dup2 hX dX4_hit_5 rfl rfl (rfl : 5 + 1 = 6) ?_
  refine al_M_M_16 hX dX4_hit_6 (rfl : 6 + 1 = 7) ?_
  refine g_iconst hX dX4_hit_7 (rfl : 7 + 1 = 8) ?_
  refine g_iadd hX dX4_hit_8 (rfl : 8 + 1 = 9) ?_
  refine as_M_M_16 hX dX4_hit_9 (rfl : 9 + 1 = 10) (fun Y1 => ?_)
  refine g_aload_n hX dX4_hit_10 (rfl : 10 + 1 = 11) rfl ?_
  refine ge_M_X4_41_M hX dX4_hit_11 (rfl : 11 + 3 = 14) ?_
  refine g_iload_n hX dX4_hit_14 (rfl : 14 + 1 = 15) rfl ?_
  refine g_aload_n hX dX4_hit_15 (rfl : 15 + 1 = 16) rfl ?_
  refine ge_M_X4_103_M hX dX4_hit_16 (rfl : 16 + 3 = 19) ?_
  refine g_iconst hX dX4_hit_19 (rfl : 19 + 1 = 20) ?_
  refine g_icmp_eq (tgt := 31) hX dX4_hit_20 (by decide) (rfl : 20 + 3 = 23) ?_ ?_
  · exact wX4_hit_31 hX a0 a1 a0 Y1
  · refine g_aload_n hX dX4_hit_23 (rfl : 23 + 1 = 24) rfl ?_
    refine ge_M_X4_103_M hX dX4_hit_24 (rfl : 24 + 3 = 27) ?_
    refine g_iconst hX dX4_hit_27 (rfl : 27 + 1 = 28) ?_
    refine g_icmp_ne (tgt := 35) hX dX4_hit_28 (by decide) (rfl : 28 + 3 = 31) ?_ ?_
    · refine g_iconst hX dX4_hit_35 (rfl : 35 + 1 = 36) ?_
      exact wX4_hit_36 hX a0 a1 0 a0 Y1
    · exact wX4_hit_31 hX a0 a1 a0 Y1
set_option maxRecDepth 100000 in
theorem wX4_fromBook_116 {X : Cx} {D : va_G} {y : ClassId × ClassId × ClassId} {q : Nat → Nat} (hX : OKX X cX4_fromBook RX4 (rmk 0) (some .boolean) D y) (v1 v2 : Int) (Y : St) : GF X cX4_fromBook D (0, 0) (QI X D y (wM y q)) (fX4_fromBook_j116 v1 v2 Y) 116 [some (.ref (q 0)), some (.int (iz v1)), some (.int (iz v2))] [] (wM y q Y) := by
  unfold fX4_fromBook_j116
  refine g_aload_n hX dX4_fromBook_116 (rfl : 116 + 1 = 117) rfl ?_
  refine ge_M_X4_47_M hX dX4_fromBook_117 (rfl : 117 + 3 = 120) ?_
  refine g_iload_n hX dX4_fromBook_120 (rfl : 120 + 1 = 121) rfl ?_
  refine g_iconst hX dX4_fromBook_121 (rfl : 121 + 1 = 122) ?_
  refine as_M_M_19 hX dX4_fromBook_122 (rfl : 122 + 1 = 123) (fun Y101 => ?_)
  refine g_iload_n hX dX4_fromBook_123 (rfl : 123 + 1 = 124) rfl ?_
  exact g_zret hX dX4_fromBook_124
set_option maxRecDepth 100000 in
theorem wX4_fromBook_113 {X : Cx} {D : va_G} {y : ClassId × ClassId × ClassId} {q : Nat → Nat} (hX : OKX X cX4_fromBook RX4 (rmk 0) (some .boolean) D y) (v1 v2 s0 : Int) (Y : St) : GF X cX4_fromBook D (0, 0) (QI X D y (wM y q)) (fX4_fromBook_j113 v1 v2 s0 Y) 113 [some (.ref (q 0)), some (.int (iz v1)), some (.int (iz v2))] [.int (iz s0), .ref (q 0)] (wM y q Y) := by
  unfold fX4_fromBook_j113
  refine pu_M_X4_118_M hX dX4_fromBook_113 (rfl : 113 + 3 = 116) (fun Y102 => ?_)
  exact wX4_fromBook_116 hX v1 v2 Y102
set_option maxRecDepth 100000 in
theorem wX4_fromBook_73 {X : Cx} {D : va_G} {y : ClassId × ClassId × ClassId} {q : Nat → Nat} (hX : OKX X cX4_fromBook RX4 (rmk 0) (some .boolean) D y) (v1 v2 : Int) (Y : St) : GF X cX4_fromBook D (0, 0) (QI X D y (wM y q)) (fX4_fromBook_j73 v1 v2 Y) 73 [some (.ref (q 0)), some (.int (iz v1)), some (.int (iz v2))] [] (wM y q Y) := by
  unfold fX4_fromBook_j73
  refine g_aload_n hX dX4_fromBook_73 (rfl : 73 + 1 = 74) rfl ?_
  refine ge_M_X4_103_M hX dX4_fromBook_74 (rfl : 74 + 3 = 77) ?_
  refine g_bipush hX dX4_fromBook_77 (by decide) (rfl : 77 + 2 = 79) ?_
  refine g_icmp_ne (tgt := 116) hX dX4_fromBook_79 (by decide) (rfl : 79 + 3 = 82) ?_ ?_
  · exact wX4_fromBook_116 hX v1 v2 Y
  · refine g_aload_n hX dX4_fromBook_82 (rfl : 82 + 1 = 83) rfl ?_
    refine ge_M_X4_47_M hX dX4_fromBook_83 (rfl : 83 + 3 = 86) ?_
    refine g_iload_n hX dX4_fromBook_86 (rfl : 86 + 1 = 87) rfl ?_
    refine al_M_M_19 hX dX4_fromBook_87 (rfl : 87 + 1 = 88) ?_
    refine g_iconst hX dX4_fromBook_88 (rfl : 88 + 1 = 89) ?_
    refine g_icmp_ne (tgt := 116) hX dX4_fromBook_89 (by decide) (rfl : 89 + 3 = 92) ?_ ?_
    · exact wX4_fromBook_116 hX v1 v2 Y
    · refine g_aload_n hX dX4_fromBook_92 (rfl : 92 + 1 = 93) rfl ?_
      refine g_aload_n hX dX4_fromBook_93 (rfl : 93 + 1 = 94) rfl ?_
      refine ge_M_X4_118_M hX dX4_fromBook_94 (rfl : 94 + 3 = 97) ?_
      refine g_if_le (tgt := 109) hX dX4_fromBook_97 (by decide) (rfl : 97 + 3 = 100) ?_ ?_
      · refine g_aload_n hX dX4_fromBook_109 (rfl : 109 + 1 = 110) rfl ?_
        refine ge_M_X4_118_M hX dX4_fromBook_110 (rfl : 110 + 3 = 113) ?_
        exact wX4_fromBook_113 hX v1 v2 ((Y.1 25)) Y
      · refine g_aload_n hX dX4_fromBook_100 (rfl : 100 + 1 = 101) rfl ?_
        refine ge_M_X4_118_M hX dX4_fromBook_101 (rfl : 101 + 3 = 104) ?_
        refine g_iconst hX dX4_fromBook_104 (rfl : 104 + 1 = 105) ?_
        refine g_isub hX dX4_fromBook_105 (rfl : 105 + 1 = 106) ?_
        refine g_goto (pc' := 113) hX dX4_fromBook_106 (by decide) ?_
        exact wX4_fromBook_113 hX v1 v2 (((Y.1 25) - 1)) Y
set_option maxRecDepth 100000 in
theorem wX4_fromBook_70 {X : Cx} {D : va_G} {y : ClassId × ClassId × ClassId} {q : Nat → Nat} (hX : OKX X cX4_fromBook RX4 (rmk 0) (some .boolean) D y) (v1 v2 s0 : Int) (Y : St) : GF X cX4_fromBook D (0, 0) (QI X D y (wM y q)) (fX4_fromBook_j70 v1 v2 s0 Y) 70 [some (.ref (q 0)), some (.int (iz v1)), some (.int (iz v2))] [.int (iz s0), .ref (q 0)] (wM y q Y) := by
  unfold fX4_fromBook_j70
  refine pu_M_X4_118_M hX dX4_fromBook_70 (rfl : 70 + 3 = 73) (fun Y103 => ?_)
  exact wX4_fromBook_73 hX v1 v2 Y103
set_option maxRecDepth 100000 in
theorem wX4_fromBook_25 {X : Cx} {D : va_G} {y : ClassId × ClassId × ClassId} {q : Nat → Nat} (hX : OKX X cX4_fromBook RX4 (rmk 0) (some .boolean) D y) (v1 s0 : Int) (Y : St) : GF X cX4_fromBook D (0, 0) (QI X D y (wM y q)) (fX4_fromBook_j25 v1 s0 Y) 25 [some (.ref (q 0)), some (.int (iz v1)), none] [.int (iz s0)] (wM y q Y) := by
  unfold fX4_fromBook_j25
  refine g_istore_n (lv' := fun x104 => [some (.ref (q 0)), some (.int (iz v1)), some (.int (iz x104))]) hX dX4_fromBook_25 (rfl : 25 + 1 = 26) rfl (fun _ => rfl) (fun x104 => ?_)
  refine g_aload_n hX dX4_fromBook_26 (rfl : 26 + 1 = 27) rfl ?_
  refine ge_M_X4_103_M hX dX4_fromBook_27 (rfl : 27 + 3 = 30) ?_
  refine g_bipush hX dX4_fromBook_30 (by decide) (rfl : 30 + 2 = 32) ?_
  refine g_icmp_ne (tgt := 73) hX dX4_fromBook_32 (by decide) (rfl : 32 + 3 = 35) ?_ ?_
  · exact wX4_fromBook_73 hX v1 x104 Y
  · refine g_aload_n hX dX4_fromBook_35 (rfl : 35 + 1 = 36) rfl ?_
    refine ge_M_X4_47_M hX dX4_fromBook_36 (rfl : 36 + 3 = 39) ?_
    refine g_iload_n hX dX4_fromBook_39 (rfl : 39 + 1 = 40) rfl ?_
    refine al_M_M_19 hX dX4_fromBook_40 (rfl : 40 + 1 = 41) ?_
    refine g_iconst hX dX4_fromBook_41 (rfl : 41 + 1 = 42) ?_
    refine g_icmp_ne (tgt := 73) hX dX4_fromBook_42 (by decide) (rfl : 42 + 3 = 45) ?_ ?_
    · exact wX4_fromBook_73 hX v1 x104 Y
    · refine g_aload_n hX dX4_fromBook_45 (rfl : 45 + 1 = 46) rfl ?_
      refine g_aload_n hX dX4_fromBook_46 (rfl : 46 + 1 = 47) rfl ?_
      refine ge_M_X4_118_M hX dX4_fromBook_47 (rfl : 47 + 3 = 50) ?_
      refine g_aload_n hX dX4_fromBook_50 (rfl : 50 + 1 = 51) rfl ?_
      refine ge_M_X4_106_M hX dX4_fromBook_51 (rfl : 51 + 3 = 54) ?_
      refine g_icmp_ge (tgt := 66) hX dX4_fromBook_54 (by decide) (rfl : 54 + 3 = 57) ?_ ?_
      · refine g_aload_n hX dX4_fromBook_66 (rfl : 66 + 1 = 67) rfl ?_
        refine ge_M_X4_118_M hX dX4_fromBook_67 (rfl : 67 + 3 = 70) ?_
        exact wX4_fromBook_70 hX v1 x104 ((Y.1 25)) Y
      · refine g_aload_n hX dX4_fromBook_57 (rfl : 57 + 1 = 58) rfl ?_
        refine ge_M_X4_118_M hX dX4_fromBook_58 (rfl : 58 + 3 = 61) ?_
        refine g_iconst hX dX4_fromBook_61 (rfl : 61 + 1 = 62) ?_
        refine g_iadd hX dX4_fromBook_62 (rfl : 62 + 1 = 63) ?_
        refine g_goto (pc' := 70) hX dX4_fromBook_63 (by decide) ?_
        exact wX4_fromBook_70 hX v1 x104 (((Y.1 25) + 1)) Y
set_option maxRecDepth 100000 in
theorem wX4_fromBook_20 {X : Cx} {D : va_G} {y : ClassId × ClassId × ClassId} {q : Nat → Nat} (hX : OKX X cX4_fromBook RX4 (rmk 0) (some .boolean) D y) (v1 : Int) (Y : St) : GF X cX4_fromBook D (0, 0) (QI X D y (wM y q)) (fX4_fromBook_j20 v1 Y) 20 [some (.ref (q 0)), some (.int (iz v1)), none] [] (wM y q Y) := by
  unfold fX4_fromBook_j20
  refine g_iconst hX dX4_fromBook_20 (rfl : 20 + 1 = 21) ?_
  refine g_goto (pc' := 25) hX dX4_fromBook_21 (by decide) ?_
  exact wX4_fromBook_25 hX v1 1 Y
set_option maxRecDepth 100000 in
theorem kX4_fromBook (l : Launch) (D : va_G) (y : ClassId × ClassId × ClassId) (q : Nat → Nat) (Y : St) (a0 : Int) : CtI l D y yX4_fromBook cX4_fromBook 3 (some .boolean) (rmk 0) [.ref (q 0), .int (iz a0)] (wM y q) Y (fX4_fromBook Y a0) := by
  refine ctI_of (own := RX4) rfl (by decide) (cat1 rfl) rfl (fun X hl hX => ?_)
  subst hl
  show GF X cX4_fromBook D (0, 0) (QI X D y (wM y q)) (fX4_fromBook Y a0) 0 [some (.ref (q 0)), some (.int (iz a0)), none] [] (wM y q Y)
  unfold fX4_fromBook
  refine g_aload_n hX dX4_fromBook_0 (rfl : 0 + 1 = 1) rfl ?_
  refine ge_M_X4_47_M hX dX4_fromBook_1 (rfl : 1 + 3 = 4) ?_
  refine g_iload_n hX dX4_fromBook_4 (rfl : 4 + 1 = 5) rfl ?_
  refine al_M_M_19 hX dX4_fromBook_5 (rfl : 5 + 1 = 6) ?_
  refine g_iconst hX dX4_fromBook_6 (rfl : 6 + 1 = 7) ?_
  refine g_icmp_eq (tgt := 20) hX dX4_fromBook_7 (by decide) (rfl : 7 + 3 = 10) ?_ ?_
  · exact wX4_fromBook_20 hX a0 Y
  · refine g_aload_n hX dX4_fromBook_10 (rfl : 10 + 1 = 11) rfl ?_
    refine ge_M_X4_47_M hX dX4_fromBook_11 (rfl : 11 + 3 = 14) ?_
    refine g_iload_n hX dX4_fromBook_14 (rfl : 14 + 1 = 15) rfl ?_
    refine al_M_M_19 hX dX4_fromBook_15 (rfl : 15 + 1 = 16) ?_
    refine g_iconst hX dX4_fromBook_16 (rfl : 16 + 1 = 17) ?_
    refine g_icmp_ne (tgt := 24) hX dX4_fromBook_17 (by decide) (rfl : 17 + 3 = 20) ?_ ?_
    · refine g_iconst hX dX4_fromBook_24 (rfl : 24 + 1 = 25) ?_
      exact wX4_fromBook_25 hX a0 0 Y
    · exact wX4_fromBook_20 hX a0 Y
set_option maxRecDepth 100000 in
theorem wX4_leave_44 {X : Cx} {D : va_G} {y : ClassId × ClassId × ClassId} {q : Nat → Nat} (hX : OKX X cX4_leave RX4 (rmk 0) none D y) (v1 s0 : Int) (Y : St) : GF X cX4_leave D (0, 0) (QV X D y (wM y q)) (fX4_leave_j44 v1 s0 Y) 44 [some (.ref (q 0)), some (.int (iz v1))] [.int (iz s0), .ref (q 0)] (wM y q Y) := by
  unfold fX4_leave_j44
  refine pu_M_X4_121_M hX dX4_leave_44 (rfl : 44 + 3 = 47) (fun Y101 => ?_)
  refine g_aload_n hX dX4_leave_47 (rfl : 47 + 1 = 48) rfl ?_
  refine ge_M_X4_53_M hX dX4_leave_48 (rfl : 48 + 3 = 51) ?_
  refine g_iload_n hX dX4_leave_51 (rfl : 51 + 1 = 52) rfl ?_
  refine g_iconst hX dX4_leave_52 (rfl : 52 + 1 = 53) ?_
  refine as_M_M_21 hX dX4_leave_53 (rfl : 53 + 1 = 54) (fun Y102 => ?_)
  refine g_aload_n hX dX4_leave_54 (rfl : 54 + 1 = 55) rfl ?_
  refine g_dup hX dX4_leave_55 rfl (rfl : 55 + 1 = 56) ?_
  refine ge_M_X4_109_M hX dX4_leave_56 (rfl : 56 + 3 = 59) ?_
  refine g_iconst hX dX4_leave_59 (rfl : 59 + 1 = 60) ?_
  refine g_isub hX dX4_leave_60 (rfl : 60 + 1 = 61) ?_
  refine pu_M_X4_109_M hX dX4_leave_61 (rfl : 61 + 3 = 64) (fun Y103 => ?_)
  exact g_vret hX dX4_leave_64
set_option maxRecDepth 100000 in
theorem kX4_leave (l : Launch) (D : va_G) (y : ClassId × ClassId × ClassId) (q : Nat → Nat) (Y : St) (a0 : Int) : CtV l D y yX4_leave cX4_leave 2 (rmk 0) [.ref (q 0), .int (iz a0)] (wM y q) Y (fX4_leave Y a0) := by
  refine ctV_of (own := RX4) rfl (by decide) (cat1 rfl) rfl (fun X hl hX => ?_)
  subst hl
  show GF X cX4_leave D (0, 0) (QV X D y (wM y q)) (fX4_leave Y a0) 0 [some (.ref (q 0)), some (.int (iz a0))] [] (wM y q Y)
  unfold fX4_leave
  refine g_aload_n hX dX4_leave_0 (rfl : 0 + 1 = 1) rfl ?_
  refine ge_M_X4_28_M hX dX4_leave_1 (rfl : 1 + 3 = 4) ?_
  refine g_iload_n hX dX4_leave_4 (rfl : 4 + 1 = 5) rfl ?_
  refine g_iconst hX dX4_leave_5 (rfl : 5 + 1 = 6) ?_
  refine as_M_M_13 hX dX4_leave_6 (rfl : 6 + 1 = 7) (fun Y1 => ?_)
  refine g_aload_n hX dX4_leave_7 (rfl : 7 + 1 = 8) rfl ?_
  refine ge_M_X4_41_M hX dX4_leave_8 (rfl : 8 + 3 = 11) ?_
  refine g_iload_n hX dX4_leave_11 (rfl : 11 + 1 = 12) rfl ?_
  refine g_iconst hX dX4_leave_12 (rfl : 12 + 1 = 13) ?_
  refine as_M_M_17 hX dX4_leave_13 (rfl : 13 + 1 = 14) (fun Y2 => ?_)
  refine g_aload_n hX dX4_leave_14 (rfl : 14 + 1 = 15) rfl ?_
  refine ge_M_X4_38_M hX dX4_leave_15 (rfl : 15 + 3 = 18) ?_
  refine g_iload_n hX dX4_leave_18 (rfl : 18 + 1 = 19) rfl ?_
  refine g_iconst hX dX4_leave_19 (rfl : 19 + 1 = 20) ?_
  refine as_M_M_16 hX dX4_leave_20 (rfl : 20 + 1 = 21) (fun Y3 => ?_)
  refine g_aload_n hX dX4_leave_21 (rfl : 21 + 1 = 22) rfl ?_
  refine g_aload_n hX dX4_leave_22 (rfl : 22 + 1 = 23) rfl ?_
  refine ge_M_X4_103_M hX dX4_leave_23 (rfl : 23 + 3 = 26) ?_
  refine g_bipush hX dX4_leave_26 (by decide) (rfl : 26 + 2 = 28) ?_
  refine g_icmp_ne (tgt := 40) hX dX4_leave_28 (by decide) (rfl : 28 + 3 = 31) ?_ ?_
  · refine g_aload_n hX dX4_leave_40 (rfl : 40 + 1 = 41) rfl ?_
    refine ge_M_X4_121_M hX dX4_leave_41 (rfl : 41 + 3 = 44) ?_
    exact wX4_leave_44 hX a0 ((Y3.1 26)) Y3
  · refine g_aload_n hX dX4_leave_31 (rfl : 31 + 1 = 32) rfl ?_
    refine ge_M_X4_53_M hX dX4_leave_32 (rfl : 32 + 3 = 35) ?_
    refine g_iload_n hX dX4_leave_35 (rfl : 35 + 1 = 36) rfl ?_
    refine al_M_M_21 hX dX4_leave_36 (rfl : 36 + 1 = 37) ?_
    refine g_goto (pc' := 44) hX dX4_leave_37 (by decide) ?_
    exact wX4_leave_44 hX a0 ((Y3.2 21 (Int.toNat a0))) Y3
set_option maxRecDepth 100000 in
theorem wX4_serveOne_236 {X : Cx} {D : va_G} {y : ClassId × ClassId × ClassId} {q : Nat → Nat} (hX : OKX X cX4_serveOne RX4 (rmk 4) none D y) (v1 v2 : Int) (Y : St) : GF X cX4_serveOne D (0, 0) (QV X D y (wM y q)) (fX4_serveOne_j236 v1 v2 Y) 236 [some (.ref (q 0)), some (.int (iz v1)), some (.int (iz v2)), none, none] [] (wM y q Y) := by
  unfold fX4_serveOne_j236
  refine g_aload_n hX dX4_serveOne_236 (rfl : 236 + 1 = 237) rfl ?_
  refine ge_M_X4_35_M hX dX4_serveOne_237 (rfl : 237 + 3 = 240) ?_
  refine g_iload_n hX dX4_serveOne_240 (rfl : 240 + 1 = 241) rfl ?_
  refine g_iload_n hX dX4_serveOne_241 (rfl : 241 + 1 = 242) rfl ?_
  refine as_M_M_15 hX dX4_serveOne_242 (rfl : 242 + 1 = 243) (fun Y101 => ?_)
  exact g_vret hX dX4_serveOne_243
set_option maxRecDepth 100000 in
theorem wX4_serveOne_211 {X : Cx} {D : va_G} {y : ClassId × ClassId × ClassId} {q : Nat → Nat} (hX : OKX X cX4_serveOne RX4 (rmk 4) none D y) (v1 v2 s0 s1 : Int) (Y : St) : GF X cX4_serveOne D (0, 0) (QV X D y (wM y q)) (fX4_serveOne_j211 v1 v2 s0 s1 Y) 211 [some (.ref (q 0)), some (.int (iz v1)), some (.int (iz v2)), none, none] [.int (iz s0), .int (iz s1), .ref (q 13)] (wM y q Y) := by
  unfold fX4_serveOne_j211
  refine as_M_M_19 hX dX4_serveOne_211 (rfl : 211 + 1 = 212) (fun Y102 => ?_)
  refine g_aload_n hX dX4_serveOne_212 (rfl : 212 + 1 = 213) rfl ?_
  refine ge_M_X4_50_M hX dX4_serveOne_213 (rfl : 213 + 3 = 216) ?_
  refine g_iload_n hX dX4_serveOne_216 (rfl : 216 + 1 = 217) rfl ?_
  refine g_iload_n hX dX4_serveOne_217 (rfl : 217 + 1 = 218) rfl ?_
  refine as_M_M_20 hX dX4_serveOne_218 (rfl : 218 + 1 = 219) (fun Y103 => ?_)
  refine g_aload_n hX dX4_serveOne_219 (rfl : 219 + 1 = 220) rfl ?_
  refine ge_M_X4_53_M hX dX4_serveOne_220 (rfl : 220 + 3 = 223) ?_
  refine g_iload_n hX dX4_serveOne_223 (rfl : 223 + 1 = 224) rfl ?_
  refine g_aload_n hX dX4_serveOne_224 (rfl : 224 + 1 = 225) rfl ?_
  refine ge_M_X4_121_M hX dX4_serveOne_225 (rfl : 225 + 3 = 228) ?_
  refine g_aload_n hX dX4_serveOne_228 (rfl : 228 + 1 = 229) rfl ?_
  refine ge_M_X4_7_M hX dX4_serveOne_229 (rfl : 229 + 3 = 232) ?_
  refine g_iload_n hX dX4_serveOne_232 (rfl : 232 + 1 = 233) rfl ?_
  refine al_M_M_0 hX dX4_serveOne_233 (rfl : 233 + 1 = 234) ?_
  refine g_iadd hX dX4_serveOne_234 (rfl : 234 + 1 = 235) ?_
  refine as_M_M_21 hX dX4_serveOne_235 (rfl : 235 + 1 = 236) (fun Y104 => ?_)
  exact wX4_serveOne_236 hX v1 v2 Y104
set_option maxRecDepth 100000 in
theorem wX4_serveOne_188 {X : Cx} {D : va_G} {y : ClassId × ClassId × ClassId} {q : Nat → Nat} (hX : OKX X cX4_serveOne RX4 (rmk 4) none D y) (v1 v2 v3 v4 s0 s1 : Int) (Y : St) : GF X cX4_serveOne D (0, 0) (QV X D y (wM y q)) (fX4_serveOne_j188 v1 v2 v3 v4 s0 s1 Y) 188 [some (.ref (q 0)), some (.int (iz v1)), some (.int (iz v2)), some (.int (iz v3)), some (.int (iz v4))] [.int (iz s0), .int (iz s1), .ref (q 11)] (wM y q Y) := by
  unfold fX4_serveOne_j188
  refine as_M_M_17 hX dX4_serveOne_188 (rfl : 188 + 1 = 189) (fun Y105 => ?_)
  refine g_aload_n hX dX4_serveOne_189 (rfl : 189 + 1 = 190) rfl ?_
  refine ge_M_X4_44_M hX dX4_serveOne_190 (rfl : 190 + 3 = 193) ?_
  refine g_iload_n hX dX4_serveOne_193 (rfl : 193 + 1 = 194) rfl ?_
  refine g_iload hX dX4_serveOne_194 (rfl : 194 + 2 = 196) rfl ?_
  refine as_M_M_18 hX dX4_serveOne_196 (rfl : 196 + 1 = 197) (fun Y106 => ?_)
  refine g_aload_n hX dX4_serveOne_197 (rfl : 197 + 1 = 198) rfl ?_
  refine ge_M_X4_47_M hX dX4_serveOne_198 (rfl : 198 + 3 = 201) ?_
  refine g_iload_n hX dX4_serveOne_201 (rfl : 201 + 1 = 202) rfl ?_
  refine g_iload_n hX dX4_serveOne_202 (rfl : 202 + 1 = 203) rfl ?_
  refine g_if_eq (tgt := 210) hX dX4_serveOne_203 (by decide) (rfl : 203 + 3 = 206) ?_ ?_
  · refine g_iconst hX dX4_serveOne_210 (rfl : 210 + 1 = 211) ?_
    refine g_drop (lv' := [some (.ref (q 0)), some (.int (iz v1)), some (.int (iz v2)), none, some (.int (iz v4))]) 3 rfl ?_
    refine g_drop (lv' := [some (.ref (q 0)), some (.int (iz v1)), some (.int (iz v2)), none, none]) 4 rfl ?_
    exact wX4_serveOne_211 hX v1 v2 1 v2 Y106
  · refine g_iconst hX dX4_serveOne_206 (rfl : 206 + 1 = 207) ?_
    refine g_goto (pc' := 211) hX dX4_serveOne_207 (by decide) ?_
    refine g_drop (lv' := [some (.ref (q 0)), some (.int (iz v1)), some (.int (iz v2)), none, some (.int (iz v4))]) 3 rfl ?_
    refine g_drop (lv' := [some (.ref (q 0)), some (.int (iz v1)), some (.int (iz v2)), none, none]) 4 rfl ?_
    exact wX4_serveOne_211 hX v1 v2 2 v2 Y106
set_option maxRecDepth 100000 in
theorem wX4_serveOne_139 {X : Cx} {D : va_G} {y : ClassId × ClassId × ClassId} {q : Nat → Nat} (hX : OKX X cX4_serveOne RX4 (rmk 4) none D y) (v1 v2 v3 v4 : Int) (Y : St) : GF X cX4_serveOne D (0, 0) (QV X D y (wM y q)) (fX4_serveOne_j139 v1 v2 v3 v4 Y) 139 [some (.ref (q 0)), some (.int (iz v1)), some (.int (iz v2)), some (.int (iz v3)), some (.int (iz v4))] [] (wM y q Y) := by
  unfold fX4_serveOne_j139
  refine g_aload_n hX dX4_serveOne_139 (rfl : 139 + 1 = 140) rfl ?_
  refine ge_M_X4_28_M hX dX4_serveOne_140 (rfl : 140 + 3 = 143) ?_
  refine g_iload_n hX dX4_serveOne_143 (rfl : 143 + 1 = 144) rfl ?_
  refine g_iconst hX dX4_serveOne_144 (rfl : 144 + 1 = 145) ?_
  refine as_M_M_13 hX dX4_serveOne_145 (rfl : 145 + 1 = 146) (fun Y107 => ?_)
  refine g_aload_n hX dX4_serveOne_146 (rfl : 146 + 1 = 147) rfl ?_
  refine g_dup hX dX4_serveOne_147 rfl (rfl : 147 + 1 = 148) ?_
  refine ge_M_X4_109_M hX dX4_serveOne_148 (rfl : 148 + 3 = 151) ?_
  refine g_iconst hX dX4_serveOne_151 (rfl : 151 + 1 = 152) ?_
  refine g_iadd hX dX4_serveOne_152 (rfl : 152 + 1 = 153) ?_
  refine pu_M_X4_109_M hX dX4_serveOne_153 (rfl : 153 + 3 = 156) (fun Y108 => ?_)
  refine g_aload_n hX dX4_serveOne_156 (rfl : 156 + 1 = 157) rfl ?_
  refine ge_M_X4_32_M hX dX4_serveOne_157 (rfl : 157 + 3 = 160) ?_
  refine g_iload_n hX dX4_serveOne_160 (rfl : 160 + 1 = 161) rfl ?_
  refine g_iload_n hX dX4_serveOne_161 (rfl : 161 + 1 = 162) rfl ?_
  refine as_M_M_14 hX dX4_serveOne_162 (rfl : 162 + 1 = 163) (fun Y109 => ?_)
  refine g_aload_n hX dX4_serveOne_163 (rfl : 163 + 1 = 164) rfl ?_
  refine ge_M_X4_38_M hX dX4_serveOne_164 (rfl : 164 + 3 = 167) ?_
  refine g_iload_n hX dX4_serveOne_167 (rfl : 167 + 1 = 168) rfl ?_
  refine g_iconst hX dX4_serveOne_168 (rfl : 168 + 1 = 169) ?_
  refine as_M_M_16 hX dX4_serveOne_169 (rfl : 169 + 1 = 170) (fun Y110 => ?_)
  refine g_aload_n hX dX4_serveOne_170 (rfl : 170 + 1 = 171) rfl ?_
  refine ge_M_X4_41_M hX dX4_serveOne_171 (rfl : 171 + 3 = 174) ?_
  refine g_iload_n hX dX4_serveOne_174 (rfl : 174 + 1 = 175) rfl ?_
  refine g_aload_n hX dX4_serveOne_175 (rfl : 175 + 1 = 176) rfl ?_
  refine ge_M_X4_103_M hX dX4_serveOne_176 (rfl : 176 + 3 = 179) ?_
  refine g_iconst hX dX4_serveOne_179 (rfl : 179 + 1 = 180) ?_
  refine g_icmp_ne (tgt := 187) hX dX4_serveOne_180 (by decide) (rfl : 180 + 3 = 183) ?_ ?_
  · refine g_iconst hX dX4_serveOne_187 (rfl : 187 + 1 = 188) ?_
    exact wX4_serveOne_188 hX v1 v2 v3 v4 0 v2 Y110
  · refine g_iconst hX dX4_serveOne_183 (rfl : 183 + 1 = 184) ?_
    refine g_goto (pc' := 188) hX dX4_serveOne_184 (by decide) ?_
    exact wX4_serveOne_188 hX v1 v2 v3 v4 1 v2 Y110
set_option maxRecDepth 100000 in
theorem wX4_serveOne_136 {X : Cx} {D : va_G} {y : ClassId × ClassId × ClassId} {q : Nat → Nat} (hX : OKX X cX4_serveOne RX4 (rmk 4) none D y) (v1 v2 v3 v4 s0 : Int) (Y : St) : GF X cX4_serveOne D (0, 0) (QV X D y (wM y q)) (fX4_serveOne_j136 v1 v2 v3 v4 s0 Y) 136 [some (.ref (q 0)), some (.int (iz v1)), some (.int (iz v2)), some (.int (iz v3)), some (.int (iz v4))] [.int (iz s0), .ref (q 0)] (wM y q Y) := by
  unfold fX4_serveOne_j136
  refine pu_M_X4_115_M hX dX4_serveOne_136 (rfl : 136 + 3 = 139) (fun Y111 => ?_)
  exact wX4_serveOne_139 hX v1 v2 v3 v4 Y111
set_option maxRecDepth 100000 in
theorem wX4_serveOne_22 {X : Cx} {D : va_G} {y : ClassId × ClassId × ClassId} {q : Nat → Nat} (hX : OKX X cX4_serveOne RX4 (rmk 4) none D y) (v1 v2 s0 : Int) (Y : St) : GF X cX4_serveOne D (0, 0) (QV X D y (wM y q)) (fX4_serveOne_j22 v1 v2 s0 Y) 22 [some (.ref (q 0)), some (.int (iz v1)), some (.int (iz v2)), none, none] [.int (iz s0), .ref (q 0)] (wM y q Y) := by
  unfold fX4_serveOne_j22
  refine pu_M_X4_165_M hX dX4_serveOne_22 (rfl : 22 + 3 = 25) (fun Y112 => ?_)
  refine g_aload_n hX dX4_serveOne_25 (rfl : 25 + 1 = 26) rfl ?_
  refine g_iconst hX dX4_serveOne_26 (rfl : 26 + 1 = 27) ?_
  refine pu_M_X4_168_M hX dX4_serveOne_27 (rfl : 27 + 3 = 30) (fun Y113 => ?_)
  refine g_aload_n hX dX4_serveOne_30 (rfl : 30 + 1 = 31) rfl ?_
  refine ge_M_X4_28_M hX dX4_serveOne_31 (rfl : 31 + 3 = 34) ?_
  refine g_iload_n hX dX4_serveOne_34 (rfl : 34 + 1 = 35) rfl ?_
  refine al_M_M_13 hX dX4_serveOne_35 (rfl : 35 + 1 = 36) ?_
  refine g_if_eq (tgt := 48) hX dX4_serveOne_36 (by decide) (rfl : 36 + 3 = 39) ?_ ?_
  · refine g_aload_n hX dX4_serveOne_48 (rfl : 48 + 1 = 49) rfl ?_
    refine g_iload_n hX dX4_serveOne_49 (rfl : 49 + 1 = 50) rfl ?_
    refine ci_MM hX (kX4_fromBook _ _ _ (q) _ _) mw_X4_175 (by decide) rfl rfl (Nat.le_of_ble_eq_true rfl) dX4_serveOne_50 (rfl : 50 + 3 = 53) (fun r115 Y114 => ?_)
    refine g_istore_n (lv' := fun x116 => [some (.ref (q 0)), some (.int (iz v1)), some (.int (iz v2)), some (.int (iz x116)), none]) hX dX4_serveOne_53 (rfl : 53 + 1 = 54) rfl (fun _ => rfl) (fun x116 => ?_)
    refine g_aload_n hX dX4_serveOne_54 (rfl : 54 + 1 = 55) rfl ?_
    refine ge_M_X4_109_M hX dX4_serveOne_55 (rfl : 55 + 3 = 58) ?_
    refine g_istore (lv' := fun x117 => [some (.ref (q 0)), some (.int (iz v1)), some (.int (iz v2)), some (.int (iz x116)), some (.int (iz x117))]) hX dX4_serveOne_58 (rfl : 58 + 2 = 60) rfl (fun _ => rfl) (fun x117 => ?_)
    refine g_aload_n hX dX4_serveOne_60 (rfl : 60 + 1 = 61) rfl ?_
    refine ge_M_X4_109_M hX dX4_serveOne_61 (rfl : 61 + 3 = 64) ?_
    refine g_aload_n hX dX4_serveOne_64 (rfl : 64 + 1 = 65) rfl ?_
    refine ge_M_X4_106_M hX dX4_serveOne_65 (rfl : 65 + 3 = 68) ?_
    refine g_icmp_ne (tgt := 139) hX dX4_serveOne_68 (by decide) (rfl : 68 + 3 = 71) ?_ ?_
    · exact wX4_serveOne_139 hX v1 v2 x116 x117 Y114
    · refine g_aload_n hX dX4_serveOne_71 (rfl : 71 + 1 = 72) rfl ?_
      refine g_aload_n hX dX4_serveOne_72 (rfl : 72 + 1 = 73) rfl ?_
      refine g_iload_n hX dX4_serveOne_73 (rfl : 73 + 1 = 74) rfl ?_
      refine ci_MM hX (kX4_chosen _ _ _ (q) _ _) mw_X4_178 (by decide) rfl rfl (Nat.le_of_ble_eq_true rfl) dX4_serveOne_74 (rfl : 74 + 3 = 77) (fun r119 Y118 => ?_)
      refine pu_M_X4_168_M hX dX4_serveOne_77 (rfl : 77 + 3 = 80) (fun Y120 => ?_)
      refine g_aload_n hX dX4_serveOne_80 (rfl : 80 + 1 = 81) rfl ?_
      refine ge_M_X4_44_M hX dX4_serveOne_81 (rfl : 81 + 3 = 84) ?_
      refine g_aload_n hX dX4_serveOne_84 (rfl : 84 + 1 = 85) rfl ?_
      refine ge_M_X4_168_M hX dX4_serveOne_85 (rfl : 85 + 3 = 88) ?_
      refine al_M_M_18 hX dX4_serveOne_88 (rfl : 88 + 1 = 89) ?_
      refine g_istore (lv' := fun x121 => [some (.ref (q 0)), some (.int (iz v1)), some (.int (iz v2)), some (.int (iz x116)), some (.int (iz x121))]) hX dX4_serveOne_89 (rfl : 89 + 2 = 91) rfl (fun _ => rfl) (fun x121 => ?_)
      refine g_aload_n hX dX4_serveOne_91 (rfl : 91 + 1 = 92) rfl ?_
      refine ge_M_X4_44_M hX dX4_serveOne_92 (rfl : 92 + 3 = 95) ?_
      refine g_aload_n hX dX4_serveOne_95 (rfl : 95 + 1 = 96) rfl ?_
      refine ge_M_X4_168_M hX dX4_serveOne_96 (rfl : 96 + 3 = 99) ?_
      refine g_iconst hX dX4_serveOne_99 (rfl : 99 + 1 = 100) ?_
      refine as_M_M_18 hX dX4_serveOne_100 (rfl : 100 + 1 = 101) (fun Y122 => ?_)
      refine g_aload_n hX dX4_serveOne_101 (rfl : 101 + 1 = 102) rfl ?_
      refine g_aload_n hX dX4_serveOne_102 (rfl : 102 + 1 = 103) rfl ?_
      refine ge_M_X4_168_M hX dX4_serveOne_103 (rfl : 103 + 3 = 106) ?_
      refine cv_MM hX (kX4_leave _ _ _ (q) _ _) mw_X4_181 (by decide) rfl rfl (Nat.le_of_ble_eq_true rfl) dX4_serveOne_106 (rfl : 106 + 3 = 109) (fun Y123 => ?_)
      refine g_aload_n hX dX4_serveOne_109 (rfl : 109 + 1 = 110) rfl ?_
      refine g_aload_n hX dX4_serveOne_110 (rfl : 110 + 1 = 111) rfl ?_
      refine ge_M_X4_103_M hX dX4_serveOne_111 (rfl : 111 + 3 = 114) ?_
      refine g_iconst hX dX4_serveOne_114 (rfl : 114 + 1 = 115) ?_
      refine g_icmp_ne (tgt := 132) hX dX4_serveOne_115 (by decide) (rfl : 115 + 3 = 118) ?_ ?_
      · refine g_aload_n hX dX4_serveOne_132 (rfl : 132 + 1 = 133) rfl ?_
        refine ge_M_X4_115_M hX dX4_serveOne_133 (rfl : 133 + 3 = 136) ?_
        exact wX4_serveOne_136 hX v1 v2 x116 x121 ((Y123.1 24)) Y123
      · refine g_aload_n hX dX4_serveOne_118 (rfl : 118 + 1 = 119) rfl ?_
        refine ge_M_X4_115_M hX dX4_serveOne_119 (rfl : 119 + 3 = 122) ?_
        refine g_iconst hX dX4_serveOne_122 (rfl : 122 + 1 = 123) ?_
        refine g_iadd hX dX4_serveOne_123 (rfl : 123 + 1 = 124) ?_
        refine g_aload_n hX dX4_serveOne_124 (rfl : 124 + 1 = 125) rfl ?_
        refine ge_M_X4_106_M hX dX4_serveOne_125 (rfl : 125 + 3 = 128) ?_
        refine g_irem hX dX4_serveOne_128 (rfl : 128 + 1 = 129) ?_
        refine g_goto (pc' := 136) hX dX4_serveOne_129 (by decide) ?_
        exact wX4_serveOne_136 hX v1 v2 x116 x121 ((remI ((Y123.1 24) + 1) (Y123.1 12))) Y123
  · refine g_aload_n hX dX4_serveOne_39 (rfl : 39 + 1 = 40) rfl ?_
    refine g_iload_n hX dX4_serveOne_40 (rfl : 40 + 1 = 41) rfl ?_
    refine g_iload_n hX dX4_serveOne_41 (rfl : 41 + 1 = 42) rfl ?_
    refine cv_MM hX (kX4_hit _ _ _ (q) _ _ _) mw_X4_171 (by decide) rfl rfl (Nat.le_of_ble_eq_true rfl) dX4_serveOne_42 (rfl : 42 + 3 = 45) (fun Y124 => ?_)
    refine g_goto (pc' := 236) hX dX4_serveOne_45 (by decide) ?_
    exact wX4_serveOne_236 hX v1 v2 Y124
set_option maxRecDepth 100000 in
theorem kX4_serveOne (l : Launch) (D : va_G) (y : ClassId × ClassId × ClassId) (q : Nat → Nat) (Y : St) (a0 : Int) : CtV l D y yX4_serveOne cX4_serveOne 5 (rmk 4) [.ref (q 0), .int (iz a0)] (wM y q) Y (fX4_serveOne Y a0) := by
  refine ctV_of (own := RX4) rfl (by decide) (cat1 rfl) rfl (fun X hl hX => ?_)
  subst hl
  show GF X cX4_serveOne D (0, 0) (QV X D y (wM y q)) (fX4_serveOne Y a0) 0 [some (.ref (q 0)), some (.int (iz a0)), none, none, none] [] (wM y q Y)
  unfold fX4_serveOne
  refine g_aload_n hX dX4_serveOne_0 (rfl : 0 + 1 = 1) rfl ?_
  refine ge_M_X4_13_M hX dX4_serveOne_1 (rfl : 1 + 3 = 4) ?_
  refine g_iload_n hX dX4_serveOne_4 (rfl : 4 + 1 = 5) rfl ?_
  refine al_M_M_1 hX dX4_serveOne_5 (rfl : 5 + 1 = 6) ?_
  refine g_istore_n (lv' := fun x1 => [some (.ref (q 0)), some (.int (iz a0)), some (.int (iz x1)), none, none]) hX dX4_serveOne_6 (rfl : 6 + 1 = 7) rfl (fun _ => rfl) (fun x1 => ?_)
  refine g_aload_n hX dX4_serveOne_7 (rfl : 7 + 1 = 8) rfl ?_
  refine g_aload_n hX dX4_serveOne_8 (rfl : 8 + 1 = 9) rfl ?_
  refine ge_M_X4_28_M hX dX4_serveOne_9 (rfl : 9 + 3 = 12) ?_
  refine g_iload_n hX dX4_serveOne_12 (rfl : 12 + 1 = 13) rfl ?_
  refine al_M_M_13 hX dX4_serveOne_13 (rfl : 13 + 1 = 14) ?_
  refine g_if_eq (tgt := 21) hX dX4_serveOne_14 (by decide) (rfl : 14 + 3 = 17) ?_ ?_
  · refine g_iconst hX dX4_serveOne_21 (rfl : 21 + 1 = 22) ?_
    exact wX4_serveOne_22 hX a0 x1 0 Y
  · refine g_iconst hX dX4_serveOne_17 (rfl : 17 + 1 = 18) ?_
    refine g_goto (pc' := 22) hX dX4_serveOne_18 (by decide) ?_
    exact wX4_serveOne_22 hX a0 x1 1 Y
set_option maxRecDepth 100000 in
theorem wX4_serveTo_9 {X : Cx} {D : va_G} {y : ClassId × ClassId × ClassId} {q : Nat → Nat} (hX : OKX X cX4_serveTo RX4 (rmk 5) none D y) : ∀ (n : Nat) (v3 v4 : Int) (Y : St), GF X cX4_serveTo D (0, 0) (QV X D y (wM y q)) (fX4_serveTo_l9 n v3 v4 Y) 9 [some (.ref (q 0)), none, none, some (.int (iz v3)), some (.int (iz v4))] [] (wM y q Y) := by
  intro n
  induction n with
  | zero => intro v3 v4 Y; exact g_none
  | succ n hk_9 =>
    intro v3 v4 Y
    unfold fX4_serveTo_l9
    refine g_iload hX dX4_serveTo_9 (rfl : 9 + 2 = 11) rfl ?_
    refine g_iload_n hX dX4_serveTo_11 (rfl : 11 + 1 = 12) rfl ?_
    refine g_icmp_gt (tgt := 27) hX dX4_serveTo_12 (by decide) (rfl : 12 + 3 = 15) ?_ ?_
    · exact g_vret hX dX4_serveTo_27
    · refine g_aload_n hX dX4_serveTo_15 (rfl : 15 + 1 = 16) rfl ?_
      refine g_iload hX dX4_serveTo_16 (rfl : 16 + 2 = 18) rfl ?_
      refine cv_MM hX (kX4_serveOne _ _ _ (q) _ _) mw_X4_187 (by decide) rfl rfl (Nat.le_of_ble_eq_true rfl) dX4_serveTo_18 (rfl : 18 + 3 = 21) (fun Y101 => ?_)
      refine g_iinc (lv' := fun x102 => [some (.ref (q 0)), none, none, some (.int (iz v3)), some (.int (iz x102))]) hX dX4_serveTo_21 (rfl : 21 + 3 = 24) rfl (fun _ => rfl) (fun x102 => ?_)
      refine g_goto (pc' := 9) hX dX4_serveTo_24 (by decide) ?_
      exact hk_9 v3 x102 Y101
set_option maxRecDepth 100000 in
theorem kX4_serveTo (l : Launch) (D : va_G) (y : ClassId × ClassId × ClassId) (q : Nat → Nat) (Y : St) (a0 a1 a2 : Int) : CtV l D y yX4_serveTo cX4_serveTo 5 (rmk 5) [.ref (q 0), .int (iz a0), .int (iz a1), .int (iz a2)] (wM y q) Y (fX4_serveTo Y a0 a1 a2) := by
  refine ctV_of (own := RX4) rfl (by decide) (cat1 rfl) rfl (fun X hl hX => ?_)
  subst hl
  show GF X cX4_serveTo D (0, 0) (QV X D y (wM y q)) (fX4_serveTo Y a0 a1 a2) 0 [some (.ref (q 0)), some (.int (iz a0)), some (.int (iz a1)), some (.int (iz a2)), none] [] (wM y q Y)
  unfold fX4_serveTo
  refine g_aload_n hX dX4_serveTo_0 (rfl : 0 + 1 = 1) rfl ?_
  refine g_iload_n hX dX4_serveTo_1 (rfl : 1 + 1 = 2) rfl ?_
  refine g_iload_n hX dX4_serveTo_2 (rfl : 2 + 1 = 3) rfl ?_
  refine cv_MM hX (kX4_begin _ _ _ (q) _ _ _) mw_X4_184 (by decide) rfl rfl (Nat.le_of_ble_eq_true rfl) dX4_serveTo_3 (rfl : 3 + 3 = 6) (fun Y1 => ?_)
  refine g_iconst hX dX4_serveTo_6 (rfl : 6 + 1 = 7) ?_
  refine g_istore (lv' := fun x2 => [some (.ref (q 0)), some (.int (iz a0)), some (.int (iz a1)), some (.int (iz a2)), some (.int (iz x2))]) hX dX4_serveTo_7 (rfl : 7 + 2 = 9) rfl (fun _ => rfl) (fun x2 => ?_)
  refine g_drop (lv' := [some (.ref (q 0)), none, some (.int (iz a1)), some (.int (iz a2)), some (.int (iz x2))]) 1 rfl ?_
  refine g_drop (lv' := [some (.ref (q 0)), none, none, some (.int (iz a2)), some (.int (iz x2))]) 2 rfl ?_
  exact wX4_serveTo_9 hX FU a2 x2 Y1
set_option maxRecDepth 100000 in
theorem wX4_missesOf_41 {X : Cx} {D : va_G} {y : ClassId × ClassId × ClassId} {q : Nat → Nat} (hX : OKX X cX4_missesOf RX4 (rmk 5) (some .int) D y) (v3 : Int) (Y : St) : GF X cX4_missesOf D (0, 0) (QI X D y (wM y q)) (fX4_missesOf_j41 v3 Y) 41 [some (.ref (q 0)), none, none, some (.int (iz v3)), none] [] (wM y q Y) := by
  unfold fX4_missesOf_j41
  refine g_iload_n hX dX4_missesOf_41 (rfl : 41 + 1 = 42) rfl ?_
  exact g_iret hX dX4_missesOf_42
set_option maxRecDepth 100000 in
theorem wX4_missesOf_11 {X : Cx} {D : va_G} {y : ClassId × ClassId × ClassId} {q : Nat → Nat} (hX : OKX X cX4_missesOf RX4 (rmk 5) (some .int) D y) : ∀ (n : Nat) (v3 v4 : Int) (Y : St), GF X cX4_missesOf D (0, 0) (QI X D y (wM y q)) (fX4_missesOf_l11 n v3 v4 Y) 11 [some (.ref (q 0)), none, none, some (.int (iz v3)), some (.int (iz v4))] [] (wM y q Y) := by
  intro n
  induction n with
  | zero => intro v3 v4 Y; exact g_none
  | succ n hk_11 =>
    intro v3 v4 Y
    unfold fX4_missesOf_l11
    refine g_iload hX dX4_missesOf_11 (rfl : 11 + 2 = 13) rfl ?_
    refine g_aload_n hX dX4_missesOf_13 (rfl : 13 + 1 = 14) rfl ?_
    refine ge_M_X4_73_M hX dX4_missesOf_14 (rfl : 14 + 3 = 17) ?_
    refine g_icmp_ge (tgt := 41) hX dX4_missesOf_17 (by decide) (rfl : 17 + 3 = 20) ?_ ?_
    · refine g_drop (lv' := [some (.ref (q 0)), none, none, some (.int (iz v3)), none]) 4 rfl ?_
      exact wX4_missesOf_41 hX v3 Y
    · refine g_aload_n hX dX4_missesOf_20 (rfl : 20 + 1 = 21) rfl ?_
      refine g_iload hX dX4_missesOf_21 (rfl : 21 + 2 = 23) rfl ?_
      refine cv_MM hX (kX4_serveOne _ _ _ (q) _ _) mw_X4_187 (by decide) rfl rfl (Nat.le_of_ble_eq_true rfl) dX4_missesOf_23 (rfl : 23 + 3 = 26) (fun Y101 => ?_)
      refine g_iload_n hX dX4_missesOf_26 (rfl : 26 + 1 = 27) rfl ?_
      refine g_iconst hX dX4_missesOf_27 (rfl : 27 + 1 = 28) ?_
      refine g_aload_n hX dX4_missesOf_28 (rfl : 28 + 1 = 29) rfl ?_
      refine ge_M_X4_165_M hX dX4_missesOf_29 (rfl : 29 + 3 = 32) ?_
      refine g_isub hX dX4_missesOf_32 (rfl : 32 + 1 = 33) ?_
      refine g_iadd hX dX4_missesOf_33 (rfl : 33 + 1 = 34) ?_
      refine g_istore_n (lv' := fun x102 => [some (.ref (q 0)), none, none, some (.int (iz x102)), some (.int (iz v4))]) hX dX4_missesOf_34 (rfl : 34 + 1 = 35) rfl (fun _ => rfl) (fun x102 => ?_)
      refine g_iinc (lv' := fun x103 => [some (.ref (q 0)), none, none, some (.int (iz x102)), some (.int (iz x103))]) hX dX4_missesOf_35 (rfl : 35 + 3 = 38) rfl (fun _ => rfl) (fun x103 => ?_)
      refine g_goto (pc' := 11) hX dX4_missesOf_38 (by decide) ?_
      exact hk_11 x102 x103 Y101
set_option maxRecDepth 100000 in
theorem kX4_missesOf (l : Launch) (D : va_G) (y : ClassId × ClassId × ClassId) (q : Nat → Nat) (Y : St) (a0 a1 : Int) : CtI l D y yX4_missesOf cX4_missesOf 5 (some .int) (rmk 5) [.ref (q 0), .int (iz a0), .int (iz a1)] (wM y q) Y (fX4_missesOf Y a0 a1) := by
  refine ctI_of (own := RX4) rfl (by decide) (cat1 rfl) rfl (fun X hl hX => ?_)
  subst hl
  show GF X cX4_missesOf D (0, 0) (QI X D y (wM y q)) (fX4_missesOf Y a0 a1) 0 [some (.ref (q 0)), some (.int (iz a0)), some (.int (iz a1)), none, none] [] (wM y q Y)
  unfold fX4_missesOf
  refine g_aload_n hX dX4_missesOf_0 (rfl : 0 + 1 = 1) rfl ?_
  refine g_iload_n hX dX4_missesOf_1 (rfl : 1 + 1 = 2) rfl ?_
  refine g_iload_n hX dX4_missesOf_2 (rfl : 2 + 1 = 3) rfl ?_
  refine cv_MM hX (kX4_begin _ _ _ (q) _ _ _) mw_X4_184 (by decide) rfl rfl (Nat.le_of_ble_eq_true rfl) dX4_missesOf_3 (rfl : 3 + 3 = 6) (fun Y1 => ?_)
  refine g_iconst hX dX4_missesOf_6 (rfl : 6 + 1 = 7) ?_
  refine g_istore_n (lv' := fun x2 => [some (.ref (q 0)), some (.int (iz a0)), some (.int (iz a1)), some (.int (iz x2)), none]) hX dX4_missesOf_7 (rfl : 7 + 1 = 8) rfl (fun _ => rfl) (fun x2 => ?_)
  refine g_iconst hX dX4_missesOf_8 (rfl : 8 + 1 = 9) ?_
  refine g_istore (lv' := fun x3 => [some (.ref (q 0)), some (.int (iz a0)), some (.int (iz a1)), some (.int (iz x2)), some (.int (iz x3))]) hX dX4_missesOf_9 (rfl : 9 + 2 = 11) rfl (fun _ => rfl) (fun x3 => ?_)
  refine g_drop (lv' := [some (.ref (q 0)), none, some (.int (iz a1)), some (.int (iz x2)), some (.int (iz x3))]) 1 rfl ?_
  refine g_drop (lv' := [some (.ref (q 0)), none, none, some (.int (iz x2)), some (.int (iz x3))]) 2 rfl ?_
  exact wX4_missesOf_11 hX FU x2 x3 Y1
set_option maxRecDepth 100000 in
theorem wX4_serve_85 {X : Cx} {D : va_G} {y : ClassId × ClassId × ClassId} {q : Nat → Nat} (hX : OKX X cX4_serve RX4 (rmk 5) (some .int) D y) (v1 v2 v3 : Int) (Y : St) : GF X cX4_serve D (0, 0) (QI X D y (wM y q)) (fX4_serve_j85 v1 v2 v3 Y) 85 [some (.ref (q 0)), some (.int (iz v1)), some (.int (iz v2)), some (.int (iz v3)), none] [] (wM y q Y) := by
  unfold fX4_serve_j85
  refine g_aload_n hX dX4_serve_85 (rfl : 85 + 1 = 86) rfl ?_
  refine g_iconst hX dX4_serve_86 (rfl : 86 + 1 = 87) ?_
  refine pu_M_X4_81_M hX dX4_serve_87 (rfl : 87 + 3 = 90) (fun Y101 => ?_)
  refine g_aload_n hX dX4_serve_90 (rfl : 90 + 1 = 91) rfl ?_
  refine g_iload_n hX dX4_serve_91 (rfl : 91 + 1 = 92) rfl ?_
  refine pu_M_X4_190_M hX dX4_serve_92 (rfl : 92 + 3 = 95) (fun Y102 => ?_)
  refine g_aload_n hX dX4_serve_95 (rfl : 95 + 1 = 96) rfl ?_
  refine g_iload_n hX dX4_serve_96 (rfl : 96 + 1 = 97) rfl ?_
  refine pu_M_X4_193_M hX dX4_serve_97 (rfl : 97 + 3 = 100) (fun Y103 => ?_)
  refine g_iload_n hX dX4_serve_100 (rfl : 100 + 1 = 101) rfl ?_
  exact g_iret hX dX4_serve_101
set_option maxRecDepth 100000 in
theorem wX4_serve_33 {X : Cx} {D : va_G} {y : ClassId × ClassId × ClassId} {q : Nat → Nat} (hX : OKX X cX4_serve RX4 (rmk 5) (some .int) D y) : ∀ (n : Nat) (v1 v2 v3 v4 : Int) (Y : St), GF X cX4_serve D (0, 0) (QI X D y (wM y q)) (fX4_serve_l33 n v1 v2 v3 v4 Y) 33 [some (.ref (q 0)), some (.int (iz v1)), some (.int (iz v2)), some (.int (iz v3)), some (.int (iz v4))] [] (wM y q Y) := by
  intro n
  induction n with
  | zero => intro v1 v2 v3 v4 Y; exact g_none
  | succ n hk_33 =>
    intro v1 v2 v3 v4 Y
    unfold fX4_serve_l33
    refine g_iload hX dX4_serve_33 (rfl : 33 + 2 = 35) rfl ?_
    refine g_aload_n hX dX4_serve_35 (rfl : 35 + 1 = 36) rfl ?_
    refine ge_M_X4_73_M hX dX4_serve_36 (rfl : 36 + 3 = 39) ?_
    refine g_icmp_ge (tgt := 85) hX dX4_serve_39 (by decide) (rfl : 39 + 3 = 42) ?_ ?_
    · refine g_drop (lv' := [some (.ref (q 0)), some (.int (iz v1)), some (.int (iz v2)), some (.int (iz v3)), none]) 4 rfl ?_
      exact wX4_serve_85 hX v1 v2 v3 Y
    · refine g_aload_n hX dX4_serve_42 (rfl : 42 + 1 = 43) rfl ?_
      refine g_iload hX dX4_serve_43 (rfl : 43 + 2 = 45) rfl ?_
      refine cv_MM hX (kX4_serveOne _ _ _ (q) _ _) mw_X4_187 (by decide) rfl rfl (Nat.le_of_ble_eq_true rfl) dX4_serve_45 (rfl : 45 + 3 = 48) (fun Y104 => ?_)
      refine g_aload_n hX dX4_serve_48 (rfl : 48 + 1 = 49) rfl ?_
      refine ge_M_X4_16_M hX dX4_serve_49 (rfl : 49 + 3 = 52) ?_
      refine g_iload hX dX4_serve_52 (rfl : 52 + 2 = 54) rfl ?_
      refine g_aload_n hX dX4_serve_54 (rfl : 54 + 1 = 55) rfl ?_
      refine ge_M_X4_165_M hX dX4_serve_55 (rfl : 55 + 3 = 58) ?_
      refine as_M_M_6 hX dX4_serve_58 (rfl : 58 + 1 = 59) (fun Y105 => ?_)
      refine g_aload_n hX dX4_serve_59 (rfl : 59 + 1 = 60) rfl ?_
      refine ge_M_X4_19_M hX dX4_serve_60 (rfl : 60 + 3 = 63) ?_
      refine g_iload hX dX4_serve_63 (rfl : 63 + 2 = 65) rfl ?_
      refine g_aload_n hX dX4_serve_65 (rfl : 65 + 1 = 66) rfl ?_
      refine ge_M_X4_168_M hX dX4_serve_66 (rfl : 66 + 3 = 69) ?_
      refine as_M_M_7 hX dX4_serve_69 (rfl : 69 + 1 = 70) (fun Y106 => ?_)
      refine g_iload_n hX dX4_serve_70 (rfl : 70 + 1 = 71) rfl ?_
      refine g_iconst hX dX4_serve_71 (rfl : 71 + 1 = 72) ?_
      refine g_aload_n hX dX4_serve_72 (rfl : 72 + 1 = 73) rfl ?_
      refine ge_M_X4_165_M hX dX4_serve_73 (rfl : 73 + 3 = 76) ?_
      refine g_isub hX dX4_serve_76 (rfl : 76 + 1 = 77) ?_
      refine g_iadd hX dX4_serve_77 (rfl : 77 + 1 = 78) ?_
      refine g_istore_n (lv' := fun x107 => [some (.ref (q 0)), some (.int (iz v1)), some (.int (iz v2)), some (.int (iz x107)), some (.int (iz v4))]) hX dX4_serve_78 (rfl : 78 + 1 = 79) rfl (fun _ => rfl) (fun x107 => ?_)
      refine g_iinc (lv' := fun x108 => [some (.ref (q 0)), some (.int (iz v1)), some (.int (iz v2)), some (.int (iz x107)), some (.int (iz x108))]) hX dX4_serve_79 (rfl : 79 + 3 = 82) rfl (fun _ => rfl) (fun x108 => ?_)
      refine g_goto (pc' := 33) hX dX4_serve_82 (by decide) ?_
      exact hk_33 v1 v2 x107 x108 Y106
set_option maxRecDepth 100000 in
theorem wX4_serve_20 {X : Cx} {D : va_G} {y : ClassId × ClassId × ClassId} {q : Nat → Nat} (hX : OKX X cX4_serve RX4 (rmk 5) (some .int) D y) (Y : St) : GF X cX4_serve D (0, 0) (QI X D y (wM y q)) (fX4_serve_j20  Y) 20 [some (.ref (q 0)), none, none, none, none] [] (wM y q Y) := by
  unfold fX4_serve_j20
  refine g_iconst hX dX4_serve_20 (rfl : 20 + 1 = 21) ?_
  exact g_iret hX dX4_serve_21
set_option maxRecDepth 100000 in
theorem kX4_serve (l : Launch) (D : va_G) (y : ClassId × ClassId × ClassId) (q : Nat → Nat) (Y : St) (a0 a1 : Int) : CtI l D y yX4_serve cX4_serve 5 (some .int) (rmk 5) [.ref (q 0), .int (iz a0), .int (iz a1)] (wM y q) Y (fX4_serve Y a0 a1) := by
  refine ctI_of (own := RX4) rfl (by decide) (cat1 rfl) rfl (fun X hl hX => ?_)
  subst hl
  show GF X cX4_serve D (0, 0) (QI X D y (wM y q)) (fX4_serve Y a0 a1) 0 [some (.ref (q 0)), some (.int (iz a0)), some (.int (iz a1)), none, none] [] (wM y q Y)
  unfold fX4_serve
  refine g_iload_n hX dX4_serve_0 (rfl : 0 + 1 = 1) rfl ?_
  refine g_iconst hX dX4_serve_1 (rfl : 1 + 1 = 2) ?_
  refine g_bipush hX dX4_serve_2 (by decide) (rfl : 2 + 2 = 4) ?_
  refine g_callp hX (kX4_in _ _ _ _ _ _) mw_X4_69 (by decide) rfl rfl (Nat.le_of_ble_eq_true rfl) dX4_serve_4 (rfl : 4 + 3 = 7) (fun r1 => ?_)
  refine g_if_eq (tgt := 20) hX dX4_serve_7 (by decide) (rfl : 7 + 3 = 10) ?_ ?_
  · refine g_drop (lv' := [some (.ref (q 0)), none, some (.int (iz a1)), none, none]) 1 rfl ?_
    refine g_drop (lv' := [some (.ref (q 0)), none, none, none, none]) 2 rfl ?_
    exact wX4_serve_20 hX  Y
  · refine g_iload_n hX dX4_serve_10 (rfl : 10 + 1 = 11) rfl ?_
    refine g_iconst hX dX4_serve_11 (rfl : 11 + 1 = 12) ?_
    refine g_bipush hX dX4_serve_12 (by decide) (rfl : 12 + 2 = 14) ?_
    refine g_callp hX (kX4_in _ _ _ _ _ _) mw_X4_69 (by decide) rfl rfl (Nat.le_of_ble_eq_true rfl) dX4_serve_14 (rfl : 14 + 3 = 17) (fun r2 => ?_)
    refine g_if_ne (tgt := 22) hX dX4_serve_17 (by decide) (rfl : 17 + 3 = 20) ?_ ?_
    · refine g_aload_n hX dX4_serve_22 (rfl : 22 + 1 = 23) rfl ?_
      refine g_iload_n hX dX4_serve_23 (rfl : 23 + 1 = 24) rfl ?_
      refine g_iload_n hX dX4_serve_24 (rfl : 24 + 1 = 25) rfl ?_
      refine cv_MM hX (kX4_begin _ _ _ (q) _ _ _) mw_X4_184 (by decide) rfl rfl (Nat.le_of_ble_eq_true rfl) dX4_serve_25 (rfl : 25 + 3 = 28) (fun Y3 => ?_)
      refine g_iconst hX dX4_serve_28 (rfl : 28 + 1 = 29) ?_
      refine g_istore_n (lv' := fun x4 => [some (.ref (q 0)), some (.int (iz a0)), some (.int (iz a1)), some (.int (iz x4)), none]) hX dX4_serve_29 (rfl : 29 + 1 = 30) rfl (fun _ => rfl) (fun x4 => ?_)
      refine g_iconst hX dX4_serve_30 (rfl : 30 + 1 = 31) ?_
      refine g_istore (lv' := fun x5 => [some (.ref (q 0)), some (.int (iz a0)), some (.int (iz a1)), some (.int (iz x4)), some (.int (iz x5))]) hX dX4_serve_31 (rfl : 31 + 2 = 33) rfl (fun _ => rfl) (fun x5 => ?_)
      exact wX4_serve_33 hX FU a0 a1 x4 x5 Y3
    · refine g_drop (lv' := [some (.ref (q 0)), none, some (.int (iz a1)), none, none]) 1 rfl ?_
      refine g_drop (lv' := [some (.ref (q 0)), none, none, none, none]) 2 rfl ?_
      exact wX4_serve_20 hX  Y
set_option maxRecDepth 100000 in
theorem wX4_paid_56 {X : Cx} {D : va_G} {y : ClassId × ClassId × ClassId} {q : Nat → Nat} (hX : OKX X cX4_paid RX4 (rmk 0) (some .int) D y) (v1 : Int) (Y : St) : GF X cX4_paid D (0, 0) (QI X D y (wM y q)) (fX4_paid_j56 v1 Y) 56 [some (.ref (q 0)), some (.int (iz v1)), none] [] (wM y q Y) := by
  unfold fX4_paid_j56
  refine g_iload_n hX dX4_paid_56 (rfl : 56 + 1 = 57) rfl ?_
  exact g_iret hX dX4_paid_57
set_option maxRecDepth 100000 in
theorem wX4_paid_48 {X : Cx} {D : va_G} {y : ClassId × ClassId × ClassId} {q : Nat → Nat} (hX : OKX X cX4_paid RX4 (rmk 0) (some .int) D y) {k_14 : Int → Int → (St) → Option (Int × (St))} (hk_14 : ∀ (v1 v2 : Int) (Y : St), GF X cX4_paid D (0, 0) (QI X D y (wM y q)) (k_14 v1 v2 Y) 14 [some (.ref (q 0)), some (.int (iz v1)), some (.int (iz v2))] [] (wM y q Y)) (v2 s0 s1 : Int) (Y : St) : GF X cX4_paid D (0, 0) (QI X D y (wM y q)) (fX4_paid_j48 k_14 v2 s0 s1 Y) 48 [some (.ref (q 0)), none, some (.int (iz v2))] [.int (iz s0), .int (iz s1)] (wM y q Y) := by
  unfold fX4_paid_j48
  refine g_iadd hX dX4_paid_48 (rfl : 48 + 1 = 49) ?_
  refine g_istore_n (lv' := fun x101 => [some (.ref (q 0)), some (.int (iz x101)), some (.int (iz v2))]) hX dX4_paid_49 (rfl : 49 + 1 = 50) rfl (fun _ => rfl) (fun x101 => ?_)
  refine g_iinc (lv' := fun x102 => [some (.ref (q 0)), some (.int (iz x101)), some (.int (iz x102))]) hX dX4_paid_50 (rfl : 50 + 3 = 53) rfl (fun _ => rfl) (fun x102 => ?_)
  refine g_goto (pc' := 14) hX dX4_paid_53 (by decide) ?_
  exact hk_14 x101 x102 Y
set_option maxRecDepth 100000 in
theorem wX4_paid_14 {X : Cx} {D : va_G} {y : ClassId × ClassId × ClassId} {q : Nat → Nat} (hX : OKX X cX4_paid RX4 (rmk 0) (some .int) D y) : ∀ (n : Nat) (v1 v2 : Int) (Y : St), GF X cX4_paid D (0, 0) (QI X D y (wM y q)) (fX4_paid_l14 n v1 v2 Y) 14 [some (.ref (q 0)), some (.int (iz v1)), some (.int (iz v2))] [] (wM y q Y) := by
  intro n
  induction n with
  | zero => intro v1 v2 Y; exact g_none
  | succ n hk_14 =>
    intro v1 v2 Y
    unfold fX4_paid_l14
    refine g_iload_n hX dX4_paid_14 (rfl : 14 + 1 = 15) rfl ?_
    refine g_aload_n hX dX4_paid_15 (rfl : 15 + 1 = 16) rfl ?_
    refine ge_M_X4_73_M hX dX4_paid_16 (rfl : 16 + 3 = 19) ?_
    refine g_icmp_ge (tgt := 56) hX dX4_paid_19 (by decide) (rfl : 19 + 3 = 22) ?_ ?_
    · refine g_drop (lv' := [some (.ref (q 0)), some (.int (iz v1)), none]) 2 rfl ?_
      exact wX4_paid_56 hX v1 Y
    · refine g_iload_n hX dX4_paid_22 (rfl : 22 + 1 = 23) rfl ?_
      refine g_aload_n hX dX4_paid_23 (rfl : 23 + 1 = 24) rfl ?_
      refine ge_M_X4_16_M hX dX4_paid_24 (rfl : 24 + 3 = 27) ?_
      refine g_iload_n hX dX4_paid_27 (rfl : 27 + 1 = 28) rfl ?_
      refine al_M_M_6 hX dX4_paid_28 (rfl : 28 + 1 = 29) ?_
      refine g_iconst hX dX4_paid_29 (rfl : 29 + 1 = 30) ?_
      refine g_icmp_ne (tgt := 37) hX dX4_paid_30 (by decide) (rfl : 30 + 3 = 33) ?_ ?_
      · refine g_aload_n hX dX4_paid_37 (rfl : 37 + 1 = 38) rfl ?_
        refine ge_M_X4_7_M hX dX4_paid_38 (rfl : 38 + 3 = 41) ?_
        refine g_aload_n hX dX4_paid_41 (rfl : 41 + 1 = 42) rfl ?_
        refine ge_M_X4_13_M hX dX4_paid_42 (rfl : 42 + 3 = 45) ?_
        refine g_iload_n hX dX4_paid_45 (rfl : 45 + 1 = 46) rfl ?_
        refine al_M_M_1 hX dX4_paid_46 (rfl : 46 + 1 = 47) ?_
        refine al_M_M_0 hX dX4_paid_47 (rfl : 47 + 1 = 48) ?_
        refine g_drop (lv' := [some (.ref (q 0)), none, some (.int (iz v2))]) 1 rfl ?_
        exact wX4_paid_48 hX hk_14 v2 ((Y.2 0 (Int.toNat (Y.2 1 (Int.toNat v2))))) v1 Y
      · refine g_iconst hX dX4_paid_33 (rfl : 33 + 1 = 34) ?_
        refine g_goto (pc' := 48) hX dX4_paid_34 (by decide) ?_
        refine g_drop (lv' := [some (.ref (q 0)), none, some (.int (iz v2))]) 1 rfl ?_
        exact wX4_paid_48 hX hk_14 v2 0 v1 Y
set_option maxRecDepth 100000 in
theorem kX4_paid (l : Launch) (D : va_G) (y : ClassId × ClassId × ClassId) (q : Nat → Nat) (Y : St) : CtI l D y yX4_paid cX4_paid 3 (some .int) (rmk 0) [.ref (q 0)] (wM y q) Y (fX4_paid Y) := by
  refine ctI_of (own := RX4) rfl (by decide) (cat1 rfl) rfl (fun X hl hX => ?_)
  subst hl
  show GF X cX4_paid D (0, 0) (QI X D y (wM y q)) (fX4_paid Y) 0 [some (.ref (q 0)), none, none] [] (wM y q Y)
  unfold fX4_paid
  refine g_aload_n hX dX4_paid_0 (rfl : 0 + 1 = 1) rfl ?_
  refine ge_M_X4_81_M hX dX4_paid_1 (rfl : 1 + 3 = 4) ?_
  refine g_if_ne (tgt := 10) hX dX4_paid_4 (by decide) (rfl : 4 + 3 = 7) ?_ ?_
  · refine g_iconst hX dX4_paid_10 (rfl : 10 + 1 = 11) ?_
    refine g_istore_n (lv' := fun x1 => [some (.ref (q 0)), some (.int (iz x1)), none]) hX dX4_paid_11 (rfl : 11 + 1 = 12) rfl (fun _ => rfl) (fun x1 => ?_)
    refine g_iconst hX dX4_paid_12 (rfl : 12 + 1 = 13) ?_
    refine g_istore_n (lv' := fun x2 => [some (.ref (q 0)), some (.int (iz x1)), some (.int (iz x2))]) hX dX4_paid_13 (rfl : 13 + 1 = 14) rfl (fun _ => rfl) (fun x2 => ?_)
    exact wX4_paid_14 hX FU x1 x2 Y
  · refine g_bipush hX dX4_paid_7 (by decide) (rfl : 7 + 2 = 9) ?_
    exact g_iret hX dX4_paid_9
set_option maxRecDepth 100000 in
theorem wX4_hit__30 {X : Cx} {D : va_G} {y : ClassId × ClassId × ClassId} {q : Nat → Nat} (hX : OKX X cX4_hit_ RX4 (rmk 2) (some .int) D y) (s0 : Int) (Y : St) : GF X cX4_hit_ D (0, 0) (QI X D y (wM y q)) (fX4_hit__j30 s0 Y) 30 [some (.ref (q 0)), none] [.int (iz s0)] (wM y q Y) := by
  unfold fX4_hit__j30
  exact g_iret hX dX4_hit__30
set_option maxRecDepth 100000 in
theorem kX4_hit_ (l : Launch) (D : va_G) (y : ClassId × ClassId × ClassId) (q : Nat → Nat) (Y : St) (a0 : Int) : CtI l D y yX4_hit_ cX4_hit_ 2 (some .int) (rmk 2) [.ref (q 0), .int (iz a0)] (wM y q) Y (fX4_hit_ Y a0) := by
  refine ctI_of (own := RX4) rfl (by decide) (cat1 rfl) rfl (fun X hl hX => ?_)
  subst hl
  show GF X cX4_hit_ D (0, 0) (QI X D y (wM y q)) (fX4_hit_ Y a0) 0 [some (.ref (q 0)), some (.int (iz a0))] [] (wM y q Y)
  unfold fX4_hit_
  refine g_aload_n hX dX4_hit__0 (rfl : 0 + 1 = 1) rfl ?_
  refine ge_M_X4_81_M hX dX4_hit__1 (rfl : 1 + 3 = 4) ?_
  refine g_if_ne (tgt := 12) hX dX4_hit__4 (by decide) (rfl : 4 + 3 = 7) ?_ ?_
  · refine g_aload_n hX dX4_hit__12 (rfl : 12 + 1 = 13) rfl ?_
    refine g_iload_n hX dX4_hit__13 (rfl : 13 + 1 = 14) rfl ?_
    refine ci_MM hX (kX4_isAsking _ _ _ (q) _ _) mw_X4_90 (by decide) rfl rfl (Nat.le_of_ble_eq_true rfl) dX4_hit__14 (rfl : 14 + 3 = 17) (fun r2 Y1 => ?_)
    refine g_if_eq (tgt := 29) hX dX4_hit__17 (by decide) (rfl : 17 + 3 = 20) ?_ ?_
    · refine g_iconst hX dX4_hit__29 (rfl : 29 + 1 = 30) ?_
      refine g_drop (lv' := [some (.ref (q 0)), none]) 1 rfl ?_
      exact wX4_hit__30 hX ((-1)) Y1
    · refine g_aload_n hX dX4_hit__20 (rfl : 20 + 1 = 21) rfl ?_
      refine ge_M_X4_16_M hX dX4_hit__21 (rfl : 21 + 3 = 24) ?_
      refine g_iload_n hX dX4_hit__24 (rfl : 24 + 1 = 25) rfl ?_
      refine al_M_M_6 hX dX4_hit__25 (rfl : 25 + 1 = 26) ?_
      refine g_goto (pc' := 30) hX dX4_hit__26 (by decide) ?_
      refine g_drop (lv' := [some (.ref (q 0)), none]) 1 rfl ?_
      exact wX4_hit__30 hX ((Y1.2 6 (Int.toNat a0))) Y1
  · refine g_bipush hX dX4_hit__7 (by decide) (rfl : 7 + 2 = 9) ?_
    refine g_goto (pc' := 30) hX dX4_hit__9 (by decide) ?_
    refine g_drop (lv' := [some (.ref (q 0)), none]) 1 rfl ?_
    exact wX4_hit__30 hX ((-3)) Y
set_option maxRecDepth 100000 in
theorem wX4_gone_25 {X : Cx} {D : va_G} {y : ClassId × ClassId × ClassId} {q : Nat → Nat} (hX : OKX X cX4_gone RX4 (rmk 2) (some .int) D y) (s0 : Int) (Y : St) : GF X cX4_gone D (0, 0) (QI X D y (wM y q)) (fX4_gone_j25 s0 Y) 25 [some (.ref (q 0)), none] [.int (iz s0)] (wM y q Y) := by
  unfold fX4_gone_j25
  exact g_iret hX dX4_gone_25
set_option maxRecDepth 100000 in
theorem wX4_gone_24 {X : Cx} {D : va_G} {y : ClassId × ClassId × ClassId} {q : Nat → Nat} (hX : OKX X cX4_gone RX4 (rmk 2) (some .int) D y) (Y : St) : GF X cX4_gone D (0, 0) (QI X D y (wM y q)) (fX4_gone_j24  Y) 24 [some (.ref (q 0)), none] [] (wM y q Y) := by
  unfold fX4_gone_j24
  refine g_iconst hX dX4_gone_24 (rfl : 24 + 1 = 25) ?_
  exact wX4_gone_25 hX ((-1)) Y
set_option maxRecDepth 100000 in
theorem kX4_gone (l : Launch) (D : va_G) (y : ClassId × ClassId × ClassId) (q : Nat → Nat) (Y : St) (a0 : Int) : CtI l D y yX4_gone cX4_gone 2 (some .int) (rmk 2) [.ref (q 0), .int (iz a0)] (wM y q) Y (fX4_gone Y a0) := by
  refine ctI_of (own := RX4) rfl (by decide) (cat1 rfl) rfl (fun X hl hX => ?_)
  subst hl
  show GF X cX4_gone D (0, 0) (QI X D y (wM y q)) (fX4_gone Y a0) 0 [some (.ref (q 0)), some (.int (iz a0))] [] (wM y q Y)
  unfold fX4_gone
  refine g_aload_n hX dX4_gone_0 (rfl : 0 + 1 = 1) rfl ?_
  refine ge_M_X4_81_M hX dX4_gone_1 (rfl : 1 + 3 = 4) ?_
  refine g_if_eq (tgt := 24) hX dX4_gone_4 (by decide) (rfl : 4 + 3 = 7) ?_ ?_
  · refine g_drop (lv' := [some (.ref (q 0)), none]) 1 rfl ?_
    exact wX4_gone_24 hX  Y
  · refine g_aload_n hX dX4_gone_7 (rfl : 7 + 1 = 8) rfl ?_
    refine g_iload_n hX dX4_gone_8 (rfl : 8 + 1 = 9) rfl ?_
    refine ci_MM hX (kX4_isAsking _ _ _ (q) _ _) mw_X4_90 (by decide) rfl rfl (Nat.le_of_ble_eq_true rfl) dX4_gone_9 (rfl : 9 + 3 = 12) (fun r2 Y1 => ?_)
    refine g_if_eq (tgt := 24) hX dX4_gone_12 (by decide) (rfl : 12 + 3 = 15) ?_ ?_
    · refine g_drop (lv' := [some (.ref (q 0)), none]) 1 rfl ?_
      exact wX4_gone_24 hX  Y1
    · refine g_aload_n hX dX4_gone_15 (rfl : 15 + 1 = 16) rfl ?_
      refine ge_M_X4_19_M hX dX4_gone_16 (rfl : 16 + 3 = 19) ?_
      refine g_iload_n hX dX4_gone_19 (rfl : 19 + 1 = 20) rfl ?_
      refine al_M_M_7 hX dX4_gone_20 (rfl : 20 + 1 = 21) ?_
      refine g_goto (pc' := 25) hX dX4_gone_21 (by decide) ?_
      refine g_drop (lv' := [some (.ref (q 0)), none]) 1 rfl ?_
      exact wX4_gone_25 hX ((Y1.2 7 (Int.toNat a0))) Y1
set_option maxRecDepth 100000 in
theorem wX4_isOfParts_22 {X : Cx} {D : va_G} {y : ClassId × ClassId × ClassId} {q : Nat → Nat} (hX : OKX X cX4_isOfParts RX4 (rmk 0) (some .boolean) D y) (s0 : Int) (Y : St) : GF X cX4_isOfParts D (0, 0) (QI X D y (wM y q)) (fX4_isOfParts_j22 s0 Y) 22 [some (.ref (q 0))] [.int (iz s0)] (wM y q Y) := by
  unfold fX4_isOfParts_j22
  exact g_zret hX dX4_isOfParts_22
set_option maxRecDepth 100000 in
theorem wX4_isOfParts_17 {X : Cx} {D : va_G} {y : ClassId × ClassId × ClassId} {q : Nat → Nat} (hX : OKX X cX4_isOfParts RX4 (rmk 0) (some .boolean) D y) (Y : St) : GF X cX4_isOfParts D (0, 0) (QI X D y (wM y q)) (fX4_isOfParts_j17  Y) 17 [some (.ref (q 0))] [] (wM y q Y) := by
  unfold fX4_isOfParts_j17
  refine g_iconst hX dX4_isOfParts_17 (rfl : 17 + 1 = 18) ?_
  refine g_goto (pc' := 22) hX dX4_isOfParts_18 (by decide) ?_
  exact wX4_isOfParts_22 hX 1 Y
set_option maxRecDepth 100000 in
theorem kX4_isOfParts (l : Launch) (D : va_G) (y : ClassId × ClassId × ClassId) (q : Nat → Nat) (Y : St) : CtI l D y yX4_isOfParts cX4_isOfParts 1 (some .boolean) (rmk 0) [.ref (q 0)] (wM y q) Y (fX4_isOfParts Y) := by
  refine ctI_of (own := RX4) rfl (by decide) (cat1 rfl) rfl (fun X hl hX => ?_)
  subst hl
  show GF X cX4_isOfParts D (0, 0) (QI X D y (wM y q)) (fX4_isOfParts Y) 0 [some (.ref (q 0))] [] (wM y q Y)
  unfold fX4_isOfParts
  refine g_aload_n hX dX4_isOfParts_0 (rfl : 0 + 1 = 1) rfl ?_
  refine ge_M_X4_190_M hX dX4_isOfParts_1 (rfl : 1 + 3 = 4) ?_
  refine g_iconst hX dX4_isOfParts_4 (rfl : 4 + 1 = 5) ?_
  refine g_icmp_eq (tgt := 17) hX dX4_isOfParts_5 (by decide) (rfl : 5 + 3 = 8) ?_ ?_
  · exact wX4_isOfParts_17 hX  Y
  · refine g_aload_n hX dX4_isOfParts_8 (rfl : 8 + 1 = 9) rfl ?_
    refine ge_M_X4_190_M hX dX4_isOfParts_9 (rfl : 9 + 3 = 12) ?_
    refine g_bipush hX dX4_isOfParts_12 (by decide) (rfl : 12 + 2 = 14) ?_
    refine g_icmp_ne (tgt := 21) hX dX4_isOfParts_14 (by decide) (rfl : 14 + 3 = 17) ?_ ?_
    · refine g_iconst hX dX4_isOfParts_21 (rfl : 21 + 1 = 22) ?_
      exact wX4_isOfParts_22 hX 0 Y
    · exact wX4_isOfParts_17 hX  Y
set_option maxRecDepth 100000 in
theorem wX4_isOfWay_87 {X : Cx} {D : va_G} {y : ClassId × ClassId × ClassId} {q : Nat → Nat} (hX : OKX X cX4_isOfWay RX4 (rmk 1) (some .boolean) D y) (s0 : Int) (Y : St) : GF X cX4_isOfWay D (0, 0) (QI X D y (wM y q)) (fX4_isOfWay_j87 s0 Y) 87 [some (.ref (q 0)), none] [.int (iz s0)] (wM y q Y) := by
  unfold fX4_isOfWay_j87
  exact g_zret hX dX4_isOfWay_87
set_option maxRecDepth 100000 in
theorem wX4_isOfWay_67 {X : Cx} {D : va_G} {y : ClassId × ClassId × ClassId} {q : Nat → Nat} (hX : OKX X cX4_isOfWay RX4 (rmk 1) (some .boolean) D y) (s0 : Int) (Y : St) : GF X cX4_isOfWay D (0, 0) (QI X D y (wM y q)) (fX4_isOfWay_j67 s0 Y) 67 [some (.ref (q 0)), none] [.int (iz s0)] (wM y q Y) := by
  unfold fX4_isOfWay_j67
  exact g_zret hX dX4_isOfWay_67
set_option maxRecDepth 100000 in
theorem wX4_isOfWay_53 {X : Cx} {D : va_G} {y : ClassId × ClassId × ClassId} {q : Nat → Nat} (hX : OKX X cX4_isOfWay RX4 (rmk 1) (some .boolean) D y) (s0 : Int) (Y : St) : GF X cX4_isOfWay D (0, 0) (QI X D y (wM y q)) (fX4_isOfWay_j53 s0 Y) 53 [some (.ref (q 0)), none] [.int (iz s0)] (wM y q Y) := by
  unfold fX4_isOfWay_j53
  exact g_zret hX dX4_isOfWay_53
set_option maxRecDepth 100000 in
theorem wX4_isOfWay_48 {X : Cx} {D : va_G} {y : ClassId × ClassId × ClassId} {q : Nat → Nat} (hX : OKX X cX4_isOfWay RX4 (rmk 1) (some .boolean) D y) (Y : St) : GF X cX4_isOfWay D (0, 0) (QI X D y (wM y q)) (fX4_isOfWay_j48  Y) 48 [some (.ref (q 0)), none] [] (wM y q Y) := by
  unfold fX4_isOfWay_j48
  refine g_iconst hX dX4_isOfWay_48 (rfl : 48 + 1 = 49) ?_
  refine g_goto (pc' := 53) hX dX4_isOfWay_49 (by decide) ?_
  exact wX4_isOfWay_53 hX 1 Y
set_option maxRecDepth 100000 in
theorem kX4_isOfWay (l : Launch) (D : va_G) (y : ClassId × ClassId × ClassId) (q : Nat → Nat) (Y : St) (a0 : Int) : CtI l D y yX4_isOfWay cX4_isOfWay 2 (some .boolean) (rmk 1) [.ref (q 0), .int (iz a0)] (wM y q) Y (fX4_isOfWay Y a0) := by
  refine ctI_of (own := RX4) rfl (by decide) (cat1 rfl) rfl (fun X hl hX => ?_)
  subst hl
  show GF X cX4_isOfWay D (0, 0) (QI X D y (wM y q)) (fX4_isOfWay Y a0) 0 [some (.ref (q 0)), some (.int (iz a0))] [] (wM y q Y)
  unfold fX4_isOfWay
  refine g_iload_n hX dX4_isOfWay_0 (rfl : 0 + 1 = 1) rfl ?_
  refine g_ite (fun c1 => ?_) (fun c1 => ?_)
  · refine g_tab (tgt := 32) hX c1 dX4_isOfWay_1 (by decide) (by decide) rfl (by decide) ?_
    refine g_aload_n hX dX4_isOfWay_32 (rfl : 32 + 1 = 33) rfl ?_
    refine ge_M_X4_190_M hX dX4_isOfWay_33 (rfl : 33 + 3 = 36) ?_
    refine g_iconst hX dX4_isOfWay_36 (rfl : 36 + 1 = 37) ?_
    refine g_icmp_eq (tgt := 48) hX dX4_isOfWay_37 (by decide) (rfl : 37 + 3 = 40) ?_ ?_
    · refine g_drop (lv' := [some (.ref (q 0)), none]) 1 rfl ?_
      exact wX4_isOfWay_48 hX  Y
    · refine g_aload_n hX dX4_isOfWay_40 (rfl : 40 + 1 = 41) rfl ?_
      refine ge_M_X4_190_M hX dX4_isOfWay_41 (rfl : 41 + 3 = 44) ?_
      refine g_iconst hX dX4_isOfWay_44 (rfl : 44 + 1 = 45) ?_
      refine g_icmp_ne (tgt := 52) hX dX4_isOfWay_45 (by decide) (rfl : 45 + 3 = 48) ?_ ?_
      · refine g_iconst hX dX4_isOfWay_52 (rfl : 52 + 1 = 53) ?_
        refine g_drop (lv' := [some (.ref (q 0)), none]) 1 rfl ?_
        exact wX4_isOfWay_53 hX 0 Y
      · refine g_drop (lv' := [some (.ref (q 0)), none]) 1 rfl ?_
        exact wX4_isOfWay_48 hX  Y
  refine g_ite (fun c2 => ?_) (fun c2 => ?_)
  · refine g_tab (tgt := 54) hX c2 dX4_isOfWay_1 (by decide) (by decide) rfl (by decide) ?_
    refine g_aload_n hX dX4_isOfWay_54 (rfl : 54 + 1 = 55) rfl ?_
    refine ge_M_X4_190_M hX dX4_isOfWay_55 (rfl : 55 + 3 = 58) ?_
    refine g_iconst hX dX4_isOfWay_58 (rfl : 58 + 1 = 59) ?_
    refine g_icmp_ne (tgt := 66) hX dX4_isOfWay_59 (by decide) (rfl : 59 + 3 = 62) ?_ ?_
    · refine g_iconst hX dX4_isOfWay_66 (rfl : 66 + 1 = 67) ?_
      refine g_drop (lv' := [some (.ref (q 0)), none]) 1 rfl ?_
      exact wX4_isOfWay_67 hX 0 Y
    · refine g_iconst hX dX4_isOfWay_62 (rfl : 62 + 1 = 63) ?_
      refine g_goto (pc' := 67) hX dX4_isOfWay_63 (by decide) ?_
      refine g_drop (lv' := [some (.ref (q 0)), none]) 1 rfl ?_
      exact wX4_isOfWay_67 hX 1 Y
  refine g_ite (fun c3 => ?_) (fun c3 => ?_)
  · refine g_tab (tgt := 68) hX c3 dX4_isOfWay_1 (by decide) (by decide) rfl (by decide) ?_
    refine g_aload_n hX dX4_isOfWay_68 (rfl : 68 + 1 = 69) rfl ?_
    refine ci_MM hX (kX4_isOfParts _ _ _ (q) _) mw_X4_196 (by decide) rfl rfl (Nat.le_of_ble_eq_true rfl) dX4_isOfWay_69 (rfl : 69 + 3 = 72) (fun r5 Y4 => ?_)
    exact g_zret hX dX4_isOfWay_72
  refine g_ite (fun c6 => ?_) (fun c6 => ?_)
  · refine g_tab (tgt := 73) hX c6 dX4_isOfWay_1 (by decide) (by decide) rfl (by decide) ?_
    refine g_aload_n hX dX4_isOfWay_73 (rfl : 73 + 1 = 74) rfl ?_
    refine ge_M_X4_190_M hX dX4_isOfWay_74 (rfl : 74 + 3 = 77) ?_
    refine g_bipush hX dX4_isOfWay_77 (by decide) (rfl : 77 + 2 = 79) ?_
    refine g_icmp_ne (tgt := 86) hX dX4_isOfWay_79 (by decide) (rfl : 79 + 3 = 82) ?_ ?_
    · refine g_iconst hX dX4_isOfWay_86 (rfl : 86 + 1 = 87) ?_
      refine g_drop (lv' := [some (.ref (q 0)), none]) 1 rfl ?_
      exact wX4_isOfWay_87 hX 0 Y
    · refine g_iconst hX dX4_isOfWay_82 (rfl : 82 + 1 = 83) ?_
      refine g_goto (pc' := 87) hX dX4_isOfWay_83 (by decide) ?_
      refine g_drop (lv' := [some (.ref (q 0)), none]) 1 rfl ?_
      exact wX4_isOfWay_87 hX 1 Y
  refine g_tabD (tgt := 88) hX dX4_isOfWay_1 (by omega) (by decide) ?_
  refine g_iconst hX dX4_isOfWay_88 (rfl : 88 + 1 = 89) ?_
  exact g_zret hX dX4_isOfWay_89
set_option maxRecDepth 100000 in
theorem wX4_look_132 {X : Cx} {D : va_G} {y : ClassId × ClassId × ClassId} {q : Nat → Nat} (hX : OKX X cX4_look RX4 (rmk 6) (some .int) D y) (s0 : Int) (Y : St) : GF X cX4_look D (0, 0) (QI X D y (wM y q)) (fX4_look_j132 s0 Y) 132 [some (.ref (q 0)), none, none, none] [.int (iz s0)] (wM y q Y) := by
  unfold fX4_look_j132
  exact g_iret hX dX4_look_132
set_option maxRecDepth 100000 in
theorem wX4_look_110 {X : Cx} {D : va_G} {y : ClassId × ClassId × ClassId} {q : Nat → Nat} (hX : OKX X cX4_look RX4 (rmk 6) (some .int) D y) (s0 : Int) (Y : St) : GF X cX4_look D (0, 0) (QI X D y (wM y q)) (fX4_look_j110 s0 Y) 110 [some (.ref (q 0)), none, none, none] [.int (iz s0)] (wM y q Y) := by
  unfold fX4_look_j110
  exact g_iret hX dX4_look_110
set_option maxRecDepth 100000 in
theorem wX4_look_34 {X : Cx} {D : va_G} {y : ClassId × ClassId × ClassId} {q : Nat → Nat} (hX : OKX X cX4_look RX4 (rmk 6) (some .int) D y) (Y : St) : GF X cX4_look D (0, 0) (QI X D y (wM y q)) (fX4_look_j34  Y) 34 [some (.ref (q 0)), none, none, none] [] (wM y q Y) := by
  unfold fX4_look_j34
  refine g_ldc hX (-2147483648) mc_X4_202 (by decide) dX4_look_34 (rfl : 34 + 2 = 36) ?_
  exact g_iret hX dX4_look_36
set_option maxRecDepth 100000 in
theorem kX4_look (l : Launch) (D : va_G) (y : ClassId × ClassId × ClassId) (q : Nat → Nat) (Y : St) (a0 a1 a2 : Int) : CtI l D y yX4_look cX4_look 4 (some .int) (rmk 6) [.ref (q 0), .int (iz a0), .int (iz a1), .int (iz a2)] (wM y q) Y (fX4_look Y a0 a1 a2) := by
  refine ctI_of (own := RX4) rfl (by decide) (cat1 rfl) rfl (fun X hl hX => ?_)
  subst hl
  show GF X cX4_look D (0, 0) (QI X D y (wM y q)) (fX4_look Y a0 a1 a2) 0 [some (.ref (q 0)), some (.int (iz a0)), some (.int (iz a1)), some (.int (iz a2))] [] (wM y q Y)
  unfold fX4_look
  refine g_aload_n hX dX4_look_0 (rfl : 0 + 1 = 1) rfl ?_
  refine ge_M_X4_81_M hX dX4_look_1 (rfl : 1 + 3 = 4) ?_
  refine g_if_ne (tgt := 10) hX dX4_look_4 (by decide) (rfl : 4 + 3 = 7) ?_ ?_
  · refine g_aload_n hX dX4_look_10 (rfl : 10 + 1 = 11) rfl ?_
    refine g_iload_n hX dX4_look_11 (rfl : 11 + 1 = 12) rfl ?_
    refine ci_MM hX (kX4_isAsking _ _ _ (q) _ _) mw_X4_90 (by decide) rfl rfl (Nat.le_of_ble_eq_true rfl) dX4_look_12 (rfl : 12 + 3 = 15) (fun r2 Y1 => ?_)
    refine g_if_eq (tgt := 34) hX dX4_look_15 (by decide) (rfl : 15 + 3 = 18) ?_ ?_
    · refine g_drop (lv' := [some (.ref (q 0)), none, some (.int (iz a1)), some (.int (iz a2))]) 1 rfl ?_
      refine g_drop (lv' := [some (.ref (q 0)), none, none, some (.int (iz a2))]) 2 rfl ?_
      refine g_drop (lv' := [some (.ref (q 0)), none, none, none]) 3 rfl ?_
      exact wX4_look_34 hX  Y1
    · refine g_iload_n hX dX4_look_18 (rfl : 18 + 1 = 19) rfl ?_
      refine g_callp hX (kX4_isThing _ _ _ _) mw_X4_77 (by decide) rfl rfl (Nat.le_of_ble_eq_true rfl) dX4_look_19 (rfl : 19 + 3 = 22) (fun r3 => ?_)
      refine g_if_eq (tgt := 34) hX dX4_look_22 (by decide) (rfl : 22 + 3 = 25) ?_ ?_
      · refine g_drop (lv' := [some (.ref (q 0)), none, some (.int (iz a1)), some (.int (iz a2))]) 1 rfl ?_
        refine g_drop (lv' := [some (.ref (q 0)), none, none, some (.int (iz a2))]) 2 rfl ?_
        refine g_drop (lv' := [some (.ref (q 0)), none, none, none]) 3 rfl ?_
        exact wX4_look_34 hX  Y1
      · refine g_iload_n hX dX4_look_25 (rfl : 25 + 1 = 26) rfl ?_
        refine g_iconst hX dX4_look_26 (rfl : 26 + 1 = 27) ?_
        refine g_iconst hX dX4_look_27 (rfl : 27 + 1 = 28) ?_
        refine g_callp hX (kX4_in _ _ _ _ _ _) mw_X4_69 (by decide) rfl rfl (Nat.le_of_ble_eq_true rfl) dX4_look_28 (rfl : 28 + 3 = 31) (fun r4 => ?_)
        refine g_if_ne (tgt := 37) hX dX4_look_31 (by decide) (rfl : 31 + 3 = 34) ?_ ?_
        · refine g_aload_n hX dX4_look_37 (rfl : 37 + 1 = 38) rfl ?_
          refine g_iload_n hX dX4_look_38 (rfl : 38 + 1 = 39) rfl ?_
          refine ci_MM hX (kX4_isOfWay _ _ _ (q) _ _) mw_X4_203 (by decide) rfl rfl (Nat.le_of_ble_eq_true rfl) dX4_look_39 (rfl : 39 + 3 = 42) (fun r6 Y5 => ?_)
          refine g_if_ne (tgt := 48) hX dX4_look_42 (by decide) (rfl : 42 + 3 = 45) ?_ ?_
          · refine g_aload_n hX dX4_look_48 (rfl : 48 + 1 = 49) rfl ?_
            refine g_aload_n hX dX4_look_49 (rfl : 49 + 1 = 50) rfl ?_
            refine ge_M_X4_190_M hX dX4_look_50 (rfl : 50 + 3 = 53) ?_
            refine g_aload_n hX dX4_look_53 (rfl : 53 + 1 = 54) rfl ?_
            refine ge_M_X4_193_M hX dX4_look_54 (rfl : 54 + 3 = 57) ?_
            refine g_iload_n hX dX4_look_57 (rfl : 57 + 1 = 58) rfl ?_
            refine cv_MM hX (kX4_serveTo _ _ _ (q) _ _ _ _) mw_X4_207 (by decide) rfl rfl (Nat.le_of_ble_eq_true rfl) dX4_look_58 (rfl : 58 + 3 = 61) (fun Y7 => ?_)
            refine g_iload_n hX dX4_look_61 (rfl : 61 + 1 = 62) rfl ?_
            refine g_ite (fun c8 => ?_) (fun c8 => ?_)
            · refine g_tab (tgt := 96) hX c8 dX4_look_62 (by decide) (by decide) rfl (by decide) ?_
              refine g_aload_n hX dX4_look_96 (rfl : 96 + 1 = 97) rfl ?_
              refine ge_M_X4_28_M hX dX4_look_97 (rfl : 97 + 3 = 100) ?_
              refine g_iload_n hX dX4_look_100 (rfl : 100 + 1 = 101) rfl ?_
              refine al_M_M_13 hX dX4_look_101 (rfl : 101 + 1 = 102) ?_
              refine g_if_eq (tgt := 109) hX dX4_look_102 (by decide) (rfl : 102 + 3 = 105) ?_ ?_
              · refine g_iconst hX dX4_look_109 (rfl : 109 + 1 = 110) ?_
                refine g_drop (lv' := [some (.ref (q 0)), none, some (.int (iz a1)), some (.int (iz a2))]) 1 rfl ?_
                refine g_drop (lv' := [some (.ref (q 0)), none, none, some (.int (iz a2))]) 2 rfl ?_
                refine g_drop (lv' := [some (.ref (q 0)), none, none, none]) 3 rfl ?_
                exact wX4_look_110 hX 0 Y7
              · refine g_iconst hX dX4_look_105 (rfl : 105 + 1 = 106) ?_
                refine g_goto (pc' := 110) hX dX4_look_106 (by decide) ?_
                refine g_drop (lv' := [some (.ref (q 0)), none, some (.int (iz a1)), some (.int (iz a2))]) 1 rfl ?_
                refine g_drop (lv' := [some (.ref (q 0)), none, none, some (.int (iz a2))]) 2 rfl ?_
                refine g_drop (lv' := [some (.ref (q 0)), none, none, none]) 3 rfl ?_
                exact wX4_look_110 hX 1 Y7
            refine g_ite (fun c9 => ?_) (fun c9 => ?_)
            · refine g_tab (tgt := 111) hX c9 dX4_look_62 (by decide) (by decide) rfl (by decide) ?_
              refine g_aload_n hX dX4_look_111 (rfl : 111 + 1 = 112) rfl ?_
              refine ge_M_X4_38_M hX dX4_look_112 (rfl : 112 + 3 = 115) ?_
              refine g_iload_n hX dX4_look_115 (rfl : 115 + 1 = 116) rfl ?_
              refine al_M_M_16 hX dX4_look_116 (rfl : 116 + 1 = 117) ?_
              exact g_iret hX dX4_look_117
            refine g_ite (fun c10 => ?_) (fun c10 => ?_)
            · refine g_tab (tgt := 118) hX c10 dX4_look_62 (by decide) (by decide) rfl (by decide) ?_
              refine g_aload_n hX dX4_look_118 (rfl : 118 + 1 = 119) rfl ?_
              refine ge_M_X4_41_M hX dX4_look_119 (rfl : 119 + 3 = 122) ?_
              refine g_iload_n hX dX4_look_122 (rfl : 122 + 1 = 123) rfl ?_
              refine al_M_M_17 hX dX4_look_123 (rfl : 123 + 1 = 124) ?_
              refine g_if_eq (tgt := 131) hX dX4_look_124 (by decide) (rfl : 124 + 3 = 127) ?_ ?_
              · refine g_iconst hX dX4_look_131 (rfl : 131 + 1 = 132) ?_
                refine g_drop (lv' := [some (.ref (q 0)), none, some (.int (iz a1)), some (.int (iz a2))]) 1 rfl ?_
                refine g_drop (lv' := [some (.ref (q 0)), none, none, some (.int (iz a2))]) 2 rfl ?_
                refine g_drop (lv' := [some (.ref (q 0)), none, none, none]) 3 rfl ?_
                exact wX4_look_132 hX 0 Y7
              · refine g_iconst hX dX4_look_127 (rfl : 127 + 1 = 128) ?_
                refine g_goto (pc' := 132) hX dX4_look_128 (by decide) ?_
                refine g_drop (lv' := [some (.ref (q 0)), none, some (.int (iz a1)), some (.int (iz a2))]) 1 rfl ?_
                refine g_drop (lv' := [some (.ref (q 0)), none, none, some (.int (iz a2))]) 2 rfl ?_
                refine g_drop (lv' := [some (.ref (q 0)), none, none, none]) 3 rfl ?_
                exact wX4_look_132 hX 1 Y7
            refine g_ite (fun c11 => ?_) (fun c11 => ?_)
            · refine g_tab (tgt := 133) hX c11 dX4_look_62 (by decide) (by decide) rfl (by decide) ?_
              refine g_aload_n hX dX4_look_133 (rfl : 133 + 1 = 134) rfl ?_
              refine ge_M_X4_44_M hX dX4_look_134 (rfl : 134 + 3 = 137) ?_
              refine g_iload_n hX dX4_look_137 (rfl : 137 + 1 = 138) rfl ?_
              refine al_M_M_18 hX dX4_look_138 (rfl : 138 + 1 = 139) ?_
              exact g_iret hX dX4_look_139
            refine g_ite (fun c12 => ?_) (fun c12 => ?_)
            · refine g_tab (tgt := 140) hX c12 dX4_look_62 (by decide) (by decide) rfl (by decide) ?_
              refine g_aload_n hX dX4_look_140 (rfl : 140 + 1 = 141) rfl ?_
              refine ge_M_X4_47_M hX dX4_look_141 (rfl : 141 + 3 = 144) ?_
              refine g_iload_n hX dX4_look_144 (rfl : 144 + 1 = 145) rfl ?_
              refine al_M_M_19 hX dX4_look_145 (rfl : 145 + 1 = 146) ?_
              exact g_iret hX dX4_look_146
            refine g_tabD (tgt := 147) hX dX4_look_62 (by omega) (by decide) ?_
            refine g_aload_n hX dX4_look_147 (rfl : 147 + 1 = 148) rfl ?_
            refine ge_M_X4_53_M hX dX4_look_148 (rfl : 148 + 3 = 151) ?_
            refine g_iload_n hX dX4_look_151 (rfl : 151 + 1 = 152) rfl ?_
            refine al_M_M_21 hX dX4_look_152 (rfl : 152 + 1 = 153) ?_
            exact g_iret hX dX4_look_153
          · refine g_ldc hX (-2147483647) mc_X4_206 (by decide) dX4_look_45 (rfl : 45 + 2 = 47) ?_
            exact g_iret hX dX4_look_47
        · refine g_drop (lv' := [some (.ref (q 0)), none, some (.int (iz a1)), some (.int (iz a2))]) 1 rfl ?_
          refine g_drop (lv' := [some (.ref (q 0)), none, none, some (.int (iz a2))]) 2 rfl ?_
          refine g_drop (lv' := [some (.ref (q 0)), none, none, none]) 3 rfl ?_
          exact wX4_look_34 hX  Y1
  · refine g_bipush hX dX4_look_7 (by decide) (rfl : 7 + 2 = 9) ?_
    exact g_iret hX dX4_look_9
set_option maxRecDepth 100000 in
theorem wX4_level_140 {X : Cx} {D : va_G} {y : ClassId × ClassId × ClassId} {q : Nat → Nat} (hX : OKX X cX4_level RX4 (rmk 6) (some .int) D y) (s0 : Int) (Y : St) : GF X cX4_level D (0, 0) (QI X D y (wM y q)) (fX4_level_j140 s0 Y) 140 [some (.ref (q 0)), none, none, none] [.int (iz s0)] (wM y q Y) := by
  unfold fX4_level_j140
  exact g_iret hX dX4_level_140
set_option maxRecDepth 100000 in
theorem wX4_level_76 {X : Cx} {D : va_G} {y : ClassId × ClassId × ClassId} {q : Nat → Nat} (hX : OKX X cX4_level RX4 (rmk 6) (some .int) D y) (v1 v2 : Int) (Y : St) : GF X cX4_level D (0, 0) (QI X D y (wM y q)) (fX4_level_j76 v1 v2 Y) 76 [some (.ref (q 0)), some (.int (iz v1)), some (.int (iz v2)), none] [] (wM y q Y) := by
  unfold fX4_level_j76
  refine g_aload_n hX dX4_level_76 (rfl : 76 + 1 = 77) rfl ?_
  refine g_aload_n hX dX4_level_77 (rfl : 77 + 1 = 78) rfl ?_
  refine ge_M_X4_190_M hX dX4_level_78 (rfl : 78 + 3 = 81) ?_
  refine g_aload_n hX dX4_level_81 (rfl : 81 + 1 = 82) rfl ?_
  refine ge_M_X4_193_M hX dX4_level_82 (rfl : 82 + 3 = 85) ?_
  refine g_iload_n hX dX4_level_85 (rfl : 85 + 1 = 86) rfl ?_
  refine cv_MM hX (kX4_serveTo _ _ _ (q) _ _ _ _) mw_X4_207 (by decide) rfl rfl (Nat.le_of_ble_eq_true rfl) dX4_level_86 (rfl : 86 + 3 = 89) (fun Y101 => ?_)
  refine g_iload_n hX dX4_level_89 (rfl : 89 + 1 = 90) rfl ?_
  refine g_if_ne (tgt := 100) hX dX4_level_90 (by decide) (rfl : 90 + 3 = 93) ?_ ?_
  · refine g_iload_n hX dX4_level_100 (rfl : 100 + 1 = 101) rfl ?_
    refine g_iconst hX dX4_level_101 (rfl : 101 + 1 = 102) ?_
    refine g_icmp_ne (tgt := 112) hX dX4_level_102 (by decide) (rfl : 102 + 3 = 105) ?_ ?_
    · refine g_iload_n hX dX4_level_112 (rfl : 112 + 1 = 113) rfl ?_
      refine g_iconst hX dX4_level_113 (rfl : 113 + 1 = 114) ?_
      refine g_icmp_ne (tgt := 124) hX dX4_level_114 (by decide) (rfl : 114 + 3 = 117) ?_ ?_
      · refine g_iload_n hX dX4_level_124 (rfl : 124 + 1 = 125) rfl ?_
        refine g_iconst hX dX4_level_125 (rfl : 125 + 1 = 126) ?_
        refine g_icmp_ne (tgt := 136) hX dX4_level_126 (by decide) (rfl : 126 + 3 = 129) ?_ ?_
        · refine g_aload_n hX dX4_level_136 (rfl : 136 + 1 = 137) rfl ?_
          refine ge_M_X4_121_M hX dX4_level_137 (rfl : 137 + 3 = 140) ?_
          refine g_drop (lv' := [some (.ref (q 0)), none, some (.int (iz v2)), none]) 1 rfl ?_
          refine g_drop (lv' := [some (.ref (q 0)), none, none, none]) 2 rfl ?_
          exact wX4_level_140 hX ((Y101.1 26)) Y101
        · refine g_aload_n hX dX4_level_129 (rfl : 129 + 1 = 130) rfl ?_
          refine ge_M_X4_118_M hX dX4_level_130 (rfl : 130 + 3 = 133) ?_
          refine g_goto (pc' := 140) hX dX4_level_133 (by decide) ?_
          refine g_drop (lv' := [some (.ref (q 0)), none, some (.int (iz v2)), none]) 1 rfl ?_
          refine g_drop (lv' := [some (.ref (q 0)), none, none, none]) 2 rfl ?_
          exact wX4_level_140 hX ((Y101.1 25)) Y101
      · refine g_aload_n hX dX4_level_117 (rfl : 117 + 1 = 118) rfl ?_
        refine ge_M_X4_115_M hX dX4_level_118 (rfl : 118 + 3 = 121) ?_
        refine g_goto (pc' := 140) hX dX4_level_121 (by decide) ?_
        refine g_drop (lv' := [some (.ref (q 0)), none, some (.int (iz v2)), none]) 1 rfl ?_
        refine g_drop (lv' := [some (.ref (q 0)), none, none, none]) 2 rfl ?_
        exact wX4_level_140 hX ((Y101.1 24)) Y101
    · refine g_aload_n hX dX4_level_105 (rfl : 105 + 1 = 106) rfl ?_
      refine ge_M_X4_112_M hX dX4_level_106 (rfl : 106 + 3 = 109) ?_
      refine g_goto (pc' := 140) hX dX4_level_109 (by decide) ?_
      refine g_drop (lv' := [some (.ref (q 0)), none, some (.int (iz v2)), none]) 1 rfl ?_
      refine g_drop (lv' := [some (.ref (q 0)), none, none, none]) 2 rfl ?_
      exact wX4_level_140 hX ((Y101.1 23)) Y101
  · refine g_aload_n hX dX4_level_93 (rfl : 93 + 1 = 94) rfl ?_
    refine ge_M_X4_109_M hX dX4_level_94 (rfl : 94 + 3 = 97) ?_
    refine g_goto (pc' := 140) hX dX4_level_97 (by decide) ?_
    refine g_drop (lv' := [some (.ref (q 0)), none, some (.int (iz v2)), none]) 1 rfl ?_
    refine g_drop (lv' := [some (.ref (q 0)), none, none, none]) 2 rfl ?_
    exact wX4_level_140 hX ((Y101.1 22)) Y101
set_option maxRecDepth 100000 in
theorem wX4_level_60 {X : Cx} {D : va_G} {y : ClassId × ClassId × ClassId} {q : Nat → Nat} (hX : OKX X cX4_level RX4 (rmk 6) (some .int) D y) (v1 v2 s0 : Int) (Y : St) : GF X cX4_level D (0, 0) (QI X D y (wM y q)) (fX4_level_j60 v1 v2 s0 Y) 60 [some (.ref (q 0)), some (.int (iz v1)), some (.int (iz v2)), none] [.int (iz s0)] (wM y q Y) := by
  unfold fX4_level_j60
  refine g_istore_n (lv' := fun x102 => [some (.ref (q 0)), some (.int (iz v1)), some (.int (iz v2)), some (.int (iz x102))]) hX dX4_level_60 (rfl : 60 + 1 = 61) rfl (fun _ => rfl) (fun x102 => ?_)
  refine g_iload_n hX dX4_level_61 (rfl : 61 + 1 = 62) rfl ?_
  refine g_if_le (tgt := 76) hX dX4_level_62 (by decide) (rfl : 62 + 3 = 65) ?_ ?_
  · refine g_drop (lv' := [some (.ref (q 0)), some (.int (iz v1)), some (.int (iz v2)), none]) 3 rfl ?_
    exact wX4_level_76 hX v1 v2 Y
  · refine g_aload_n hX dX4_level_65 (rfl : 65 + 1 = 66) rfl ?_
    refine ge_M_X4_190_M hX dX4_level_66 (rfl : 66 + 3 = 69) ?_
    refine g_iload_n hX dX4_level_69 (rfl : 69 + 1 = 70) rfl ?_
    refine g_icmp_eq (tgt := 76) hX dX4_level_70 (by decide) (rfl : 70 + 3 = 73) ?_ ?_
    · refine g_drop (lv' := [some (.ref (q 0)), some (.int (iz v1)), some (.int (iz v2)), none]) 3 rfl ?_
      exact wX4_level_76 hX v1 v2 Y
    · refine g_ldc hX (-2147483647) mc_X4_206 (by decide) dX4_level_73 (rfl : 73 + 2 = 75) ?_
      exact g_iret hX dX4_level_75
set_option maxRecDepth 100000 in
theorem wX4_level_27 {X : Cx} {D : va_G} {y : ClassId × ClassId × ClassId} {q : Nat → Nat} (hX : OKX X cX4_level RX4 (rmk 6) (some .int) D y) (Y : St) : GF X cX4_level D (0, 0) (QI X D y (wM y q)) (fX4_level_j27  Y) 27 [some (.ref (q 0)), none, none, none] [] (wM y q Y) := by
  unfold fX4_level_j27
  refine g_ldc hX (-2147483648) mc_X4_202 (by decide) dX4_level_27 (rfl : 27 + 2 = 29) ?_
  exact g_iret hX dX4_level_29
set_option maxRecDepth 100000 in
theorem kX4_level (l : Launch) (D : va_G) (y : ClassId × ClassId × ClassId) (q : Nat → Nat) (Y : St) (a0 a1 : Int) : CtI l D y yX4_level cX4_level 4 (some .int) (rmk 6) [.ref (q 0), .int (iz a0), .int (iz a1)] (wM y q) Y (fX4_level Y a0 a1) := by
  refine ctI_of (own := RX4) rfl (by decide) (cat1 rfl) rfl (fun X hl hX => ?_)
  subst hl
  show GF X cX4_level D (0, 0) (QI X D y (wM y q)) (fX4_level Y a0 a1) 0 [some (.ref (q 0)), some (.int (iz a0)), some (.int (iz a1)), none] [] (wM y q Y)
  unfold fX4_level
  refine g_aload_n hX dX4_level_0 (rfl : 0 + 1 = 1) rfl ?_
  refine ge_M_X4_81_M hX dX4_level_1 (rfl : 1 + 3 = 4) ?_
  refine g_if_ne (tgt := 10) hX dX4_level_4 (by decide) (rfl : 4 + 3 = 7) ?_ ?_
  · refine g_aload_n hX dX4_level_10 (rfl : 10 + 1 = 11) rfl ?_
    refine g_iload_n hX dX4_level_11 (rfl : 11 + 1 = 12) rfl ?_
    refine ci_MM hX (kX4_isAsking _ _ _ (q) _ _) mw_X4_90 (by decide) rfl rfl (Nat.le_of_ble_eq_true rfl) dX4_level_12 (rfl : 12 + 3 = 15) (fun r2 Y1 => ?_)
    refine g_if_eq (tgt := 27) hX dX4_level_15 (by decide) (rfl : 15 + 3 = 18) ?_ ?_
    · refine g_drop (lv' := [some (.ref (q 0)), none, some (.int (iz a1)), none]) 1 rfl ?_
      refine g_drop (lv' := [some (.ref (q 0)), none, none, none]) 2 rfl ?_
      exact wX4_level_27 hX  Y1
    · refine g_iload_n hX dX4_level_18 (rfl : 18 + 1 = 19) rfl ?_
      refine g_iconst hX dX4_level_19 (rfl : 19 + 1 = 20) ?_
      refine g_iconst hX dX4_level_20 (rfl : 20 + 1 = 21) ?_
      refine g_callp hX (kX4_in _ _ _ _ _ _) mw_X4_69 (by decide) rfl rfl (Nat.le_of_ble_eq_true rfl) dX4_level_21 (rfl : 21 + 3 = 24) (fun r3 => ?_)
      refine g_if_ne (tgt := 30) hX dX4_level_24 (by decide) (rfl : 24 + 3 = 27) ?_ ?_
      · refine g_iload_n hX dX4_level_30 (rfl : 30 + 1 = 31) rfl ?_
        refine g_iconst hX dX4_level_31 (rfl : 31 + 1 = 32) ?_
        refine g_icmp_ne (tgt := 39) hX dX4_level_32 (by decide) (rfl : 32 + 3 = 35) ?_ ?_
        · refine g_iload_n hX dX4_level_39 (rfl : 39 + 1 = 40) rfl ?_
          refine g_iconst hX dX4_level_40 (rfl : 40 + 1 = 41) ?_
          refine g_icmp_ne (tgt := 48) hX dX4_level_41 (by decide) (rfl : 41 + 3 = 44) ?_ ?_
          · refine g_iload_n hX dX4_level_48 (rfl : 48 + 1 = 49) rfl ?_
            refine g_iconst hX dX4_level_49 (rfl : 49 + 1 = 50) ?_
            refine g_icmp_ne (tgt := 58) hX dX4_level_50 (by decide) (rfl : 50 + 3 = 53) ?_ ?_
            · refine g_bipush hX dX4_level_58 (by decide) (rfl : 58 + 2 = 60) ?_
              exact wX4_level_60 hX a0 a1 7 Y1
            · refine g_bipush hX dX4_level_53 (by decide) (rfl : 53 + 2 = 55) ?_
              refine g_goto (pc' := 60) hX dX4_level_55 (by decide) ?_
              exact wX4_level_60 hX a0 a1 6 Y1
          · refine g_iconst hX dX4_level_44 (rfl : 44 + 1 = 45) ?_
            refine g_goto (pc' := 60) hX dX4_level_45 (by decide) ?_
            exact wX4_level_60 hX a0 a1 3 Y1
        · refine g_iconst hX dX4_level_35 (rfl : 35 + 1 = 36) ?_
          refine g_goto (pc' := 60) hX dX4_level_36 (by decide) ?_
          exact wX4_level_60 hX a0 a1 2 Y1
      · refine g_drop (lv' := [some (.ref (q 0)), none, some (.int (iz a1)), none]) 1 rfl ?_
        refine g_drop (lv' := [some (.ref (q 0)), none, none, none]) 2 rfl ?_
        exact wX4_level_27 hX  Y1
  · refine g_bipush hX dX4_level_7 (by decide) (rfl : 7 + 2 = 9) ?_
    exact g_iret hX dX4_level_9
set_option maxRecDepth 100000 in
theorem wX4_fewest_72 {X : Cx} {D : va_G} {y : ClassId × ClassId × ClassId} {q : Nat → Nat} (hX : OKX X cX4_fewest RX4 (rmk 6) (some .int) D y) (v2 : Int) (Y : St) : GF X cX4_fewest D (0, 0) (QI X D y (wM y q)) (fX4_fewest_j72 v2 Y) 72 [some (.ref (q 0)), none, some (.int (iz v2)), none, none, none] [] (wM y q Y) := by
  unfold fX4_fewest_j72
  refine g_iload_n hX dX4_fewest_72 (rfl : 72 + 1 = 73) rfl ?_
  exact g_iret hX dX4_fewest_73
set_option maxRecDepth 100000 in
theorem wX4_fewest_65 {X : Cx} {D : va_G} {y : ClassId × ClassId × ClassId} {q : Nat → Nat} (hX : OKX X cX4_fewest RX4 (rmk 6) (some .int) D y) {k_24 : Int → Int → Int → Int → (St) → Option (Int × (St))} (hk_24 : ∀ (v1 v2 v3 v4 : Int) (Y : St), GF X cX4_fewest D (0, 0) (QI X D y (wM y q)) (k_24 v1 v2 v3 v4 Y) 24 [some (.ref (q 0)), some (.int (iz v1)), some (.int (iz v2)), some (.int (iz v3)), some (.int (iz v4)), none] [] (wM y q Y)) (v1 v2 v4 s0 : Int) (Y : St) : GF X cX4_fewest D (0, 0) (QI X D y (wM y q)) (fX4_fewest_j65 k_24 v1 v2 v4 s0 Y) 65 [some (.ref (q 0)), some (.int (iz v1)), some (.int (iz v2)), none, some (.int (iz v4)), none] [.int (iz s0)] (wM y q Y) := by
  unfold fX4_fewest_j65
  refine g_istore_n (lv' := fun x101 => [some (.ref (q 0)), some (.int (iz v1)), some (.int (iz v2)), some (.int (iz x101)), some (.int (iz v4)), none]) hX dX4_fewest_65 (rfl : 65 + 1 = 66) rfl (fun _ => rfl) (fun x101 => ?_)
  refine g_iinc (lv' := fun x102 => [some (.ref (q 0)), some (.int (iz v1)), some (.int (iz v2)), some (.int (iz x101)), some (.int (iz x102)), none]) hX dX4_fewest_66 (rfl : 66 + 3 = 69) rfl (fun _ => rfl) (fun x102 => ?_)
  refine g_goto (pc' := 24) hX dX4_fewest_69 (by decide) ?_
  exact hk_24 v1 v2 x101 x102 Y
set_option maxRecDepth 100000 in
theorem wX4_fewest_52 {X : Cx} {D : va_G} {y : ClassId × ClassId × ClassId} {q : Nat → Nat} (hX : OKX X cX4_fewest RX4 (rmk 6) (some .int) D y) {k_24 : Int → Int → Int → Int → (St) → Option (Int × (St))} (hk_24 : ∀ (v1 v2 v3 v4 : Int) (Y : St), GF X cX4_fewest D (0, 0) (QI X D y (wM y q)) (k_24 v1 v2 v3 v4 Y) 24 [some (.ref (q 0)), some (.int (iz v1)), some (.int (iz v2)), some (.int (iz v3)), some (.int (iz v4)), none] [] (wM y q Y)) (v1 v3 v4 v5 s0 : Int) (Y : St) : GF X cX4_fewest D (0, 0) (QI X D y (wM y q)) (fX4_fewest_j52 k_24 v1 v3 v4 v5 s0 Y) 52 [some (.ref (q 0)), some (.int (iz v1)), none, some (.int (iz v3)), some (.int (iz v4)), some (.int (iz v5))] [.int (iz s0)] (wM y q Y) := by
  unfold fX4_fewest_j52
  refine g_istore_n (lv' := fun x103 => [some (.ref (q 0)), some (.int (iz v1)), some (.int (iz x103)), some (.int (iz v3)), some (.int (iz v4)), some (.int (iz v5))]) hX dX4_fewest_52 (rfl : 52 + 1 = 53) rfl (fun _ => rfl) (fun x103 => ?_)
  refine g_iload hX dX4_fewest_53 (rfl : 53 + 2 = 55) rfl ?_
  refine g_iload_n hX dX4_fewest_55 (rfl : 55 + 1 = 56) rfl ?_
  refine g_icmp_ge (tgt := 64) hX dX4_fewest_56 (by decide) (rfl : 56 + 3 = 59) ?_ ?_
  · refine g_iload_n hX dX4_fewest_64 (rfl : 64 + 1 = 65) rfl ?_
    refine g_drop (lv' := [some (.ref (q 0)), some (.int (iz v1)), some (.int (iz x103)), none, some (.int (iz v4)), some (.int (iz v5))]) 3 rfl ?_
    refine g_drop (lv' := [some (.ref (q 0)), some (.int (iz v1)), some (.int (iz x103)), none, some (.int (iz v4)), none]) 5 rfl ?_
    exact wX4_fewest_65 hX hk_24 v1 x103 v4 v3 Y
  · refine g_iload hX dX4_fewest_59 (rfl : 59 + 2 = 61) rfl ?_
    refine g_goto (pc' := 65) hX dX4_fewest_61 (by decide) ?_
    refine g_drop (lv' := [some (.ref (q 0)), some (.int (iz v1)), some (.int (iz x103)), none, some (.int (iz v4)), some (.int (iz v5))]) 3 rfl ?_
    refine g_drop (lv' := [some (.ref (q 0)), some (.int (iz v1)), some (.int (iz x103)), none, some (.int (iz v4)), none]) 5 rfl ?_
    exact wX4_fewest_65 hX hk_24 v1 x103 v4 v5 Y
set_option maxRecDepth 100000 in
theorem wX4_fewest_24 {X : Cx} {D : va_G} {y : ClassId × ClassId × ClassId} {q : Nat → Nat} (hX : OKX X cX4_fewest RX4 (rmk 6) (some .int) D y) : ∀ (n : Nat) (v1 v2 v3 v4 : Int) (Y : St), GF X cX4_fewest D (0, 0) (QI X D y (wM y q)) (fX4_fewest_l24 n v1 v2 v3 v4 Y) 24 [some (.ref (q 0)), some (.int (iz v1)), some (.int (iz v2)), some (.int (iz v3)), some (.int (iz v4)), none] [] (wM y q Y) := by
  intro n
  induction n with
  | zero => intro v1 v2 v3 v4 Y; exact g_none
  | succ n hk_24 =>
    intro v1 v2 v3 v4 Y
    unfold fX4_fewest_l24
    refine g_iload hX dX4_fewest_24 (rfl : 24 + 2 = 26) rfl ?_
    refine g_bipush hX dX4_fewest_26 (by decide) (rfl : 26 + 2 = 28) ?_
    refine g_icmp_ge (tgt := 72) hX dX4_fewest_28 (by decide) (rfl : 28 + 3 = 31) ?_ ?_
    · refine g_drop (lv' := [some (.ref (q 0)), none, some (.int (iz v2)), some (.int (iz v3)), some (.int (iz v4)), none]) 1 rfl ?_
      refine g_drop (lv' := [some (.ref (q 0)), none, some (.int (iz v2)), none, some (.int (iz v4)), none]) 3 rfl ?_
      refine g_drop (lv' := [some (.ref (q 0)), none, some (.int (iz v2)), none, none, none]) 4 rfl ?_
      exact wX4_fewest_72 hX v2 Y
    · refine g_aload_n hX dX4_fewest_31 (rfl : 31 + 1 = 32) rfl ?_
      refine g_iload hX dX4_fewest_32 (rfl : 32 + 2 = 34) rfl ?_
      refine g_iload_n hX dX4_fewest_34 (rfl : 34 + 1 = 35) rfl ?_
      refine ci_MM hX (kX4_missesOf _ _ _ (q) _ _ _) mw_X4_210 (by decide) rfl rfl (Nat.le_of_ble_eq_true rfl) dX4_fewest_35 (rfl : 35 + 3 = 38) (fun r105 Y104 => ?_)
      refine g_istore (lv' := fun x106 => [some (.ref (q 0)), some (.int (iz v1)), some (.int (iz v2)), some (.int (iz v3)), some (.int (iz v4)), some (.int (iz x106))]) hX dX4_fewest_38 (rfl : 38 + 2 = 40) rfl (fun _ => rfl) (fun x106 => ?_)
      refine g_iload hX dX4_fewest_40 (rfl : 40 + 2 = 42) rfl ?_
      refine g_iload_n hX dX4_fewest_42 (rfl : 42 + 1 = 43) rfl ?_
      refine g_icmp_ge (tgt := 51) hX dX4_fewest_43 (by decide) (rfl : 43 + 3 = 46) ?_ ?_
      · refine g_iload_n hX dX4_fewest_51 (rfl : 51 + 1 = 52) rfl ?_
        refine g_drop (lv' := [some (.ref (q 0)), some (.int (iz v1)), none, some (.int (iz v3)), some (.int (iz v4)), some (.int (iz x106))]) 2 rfl ?_
        exact wX4_fewest_52 hX hk_24 v1 v3 v4 x106 v2 Y104
      · refine g_iload hX dX4_fewest_46 (rfl : 46 + 2 = 48) rfl ?_
        refine g_goto (pc' := 52) hX dX4_fewest_48 (by decide) ?_
        refine g_drop (lv' := [some (.ref (q 0)), some (.int (iz v1)), none, some (.int (iz v3)), some (.int (iz v4)), some (.int (iz x106))]) 2 rfl ?_
        exact wX4_fewest_52 hX hk_24 v1 v3 v4 x106 v4 Y104
set_option maxRecDepth 100000 in
theorem kX4_fewest (l : Launch) (D : va_G) (y : ClassId × ClassId × ClassId) (q : Nat → Nat) (Y : St) (a0 : Int) : CtI l D y yX4_fewest cX4_fewest 6 (some .int) (rmk 6) [.ref (q 0), .int (iz a0)] (wM y q) Y (fX4_fewest Y a0) := by
  refine ctI_of (own := RX4) rfl (by decide) (cat1 rfl) rfl (fun X hl hX => ?_)
  subst hl
  show GF X cX4_fewest D (0, 0) (QI X D y (wM y q)) (fX4_fewest Y a0) 0 [some (.ref (q 0)), some (.int (iz a0)), none, none, none, none] [] (wM y q Y)
  unfold fX4_fewest
  refine g_iload_n hX dX4_fewest_0 (rfl : 0 + 1 = 1) rfl ?_
  refine g_iconst hX dX4_fewest_1 (rfl : 1 + 1 = 2) ?_
  refine g_bipush hX dX4_fewest_2 (by decide) (rfl : 2 + 2 = 4) ?_
  refine g_callp hX (kX4_in _ _ _ _ _ _) mw_X4_69 (by decide) rfl rfl (Nat.le_of_ble_eq_true rfl) dX4_fewest_4 (rfl : 4 + 3 = 7) (fun r1 => ?_)
  refine g_if_ne (tgt := 12) hX dX4_fewest_7 (by decide) (rfl : 7 + 3 = 10) ?_ ?_
  · refine g_iconst hX dX4_fewest_12 (rfl : 12 + 1 = 13) ?_
    refine g_istore_n (lv' := fun x2 => [some (.ref (q 0)), some (.int (iz a0)), some (.int (iz x2)), none, none, none]) hX dX4_fewest_13 (rfl : 13 + 1 = 14) rfl (fun _ => rfl) (fun x2 => ?_)
    refine g_aload_n hX dX4_fewest_14 (rfl : 14 + 1 = 15) rfl ?_
    refine g_iconst hX dX4_fewest_15 (rfl : 15 + 1 = 16) ?_
    refine g_iload_n hX dX4_fewest_16 (rfl : 16 + 1 = 17) rfl ?_
    refine ci_MM hX (kX4_missesOf _ _ _ (q) _ _ _) mw_X4_210 (by decide) rfl rfl (Nat.le_of_ble_eq_true rfl) dX4_fewest_17 (rfl : 17 + 3 = 20) (fun r4 Y3 => ?_)
    refine g_istore_n (lv' := fun x5 => [some (.ref (q 0)), some (.int (iz a0)), some (.int (iz x2)), some (.int (iz x5)), none, none]) hX dX4_fewest_20 (rfl : 20 + 1 = 21) rfl (fun _ => rfl) (fun x5 => ?_)
    refine g_iconst hX dX4_fewest_21 (rfl : 21 + 1 = 22) ?_
    refine g_istore (lv' := fun x6 => [some (.ref (q 0)), some (.int (iz a0)), some (.int (iz x2)), some (.int (iz x5)), some (.int (iz x6)), none]) hX dX4_fewest_22 (rfl : 22 + 2 = 24) rfl (fun _ => rfl) (fun x6 => ?_)
    exact wX4_fewest_24 hX FU a0 x2 x5 x6 Y3
  · refine g_iconst hX dX4_fewest_10 (rfl : 10 + 1 = 11) ?_
    exact g_iret hX dX4_fewest_11
set_option maxRecDepth 100000 in
theorem wX4_share_46 {X : Cx} {D : va_G} {y : ClassId × ClassId × ClassId} {q : Nat → Nat} (hX : OKX X cX4_share RX4 (rmk 0) (some .int) D y) (v1 : Int) (Y : St) : GF X cX4_share D (0, 0) (QI X D y (wM y q)) (fX4_share_j46 v1 Y) 46 [some (.ref (q 0)), some (.int (iz v1)), none] [] (wM y q Y) := by
  unfold fX4_share_j46
  refine g_iload_n hX dX4_share_46 (rfl : 46 + 1 = 47) rfl ?_
  refine g_i2f hX dX4_share_47 (rfl : 47 + 1 = 48) ?_
  refine g_aload_n hX dX4_share_48 (rfl : 48 + 1 = 49) rfl ?_
  refine ge_M_X4_73_M hX dX4_share_49 (rfl : 49 + 3 = 52) ?_
  refine g_i2f hX dX4_share_52 (rfl : 52 + 1 = 53) ?_
  refine g_fdiv hX dX4_share_53 (rfl : 53 + 1 = 54) ?_
  refine g_ldcf hX mc_X4_213 dX4_share_54 (rfl : 54 + 2 = 56) ?_
  refine g_fmul hX dX4_share_56 (rfl : 56 + 1 = 57) ?_
  refine g_f2i hX dX4_share_57 (rfl : 57 + 1 = 58) ?_
  exact g_iret hX dX4_share_58
set_option maxRecDepth 100000 in
theorem wX4_share_23 {X : Cx} {D : va_G} {y : ClassId × ClassId × ClassId} {q : Nat → Nat} (hX : OKX X cX4_share RX4 (rmk 0) (some .int) D y) : ∀ (n : Nat) (v1 v2 : Int) (Y : St), GF X cX4_share D (0, 0) (QI X D y (wM y q)) (fX4_share_l23 n v1 v2 Y) 23 [some (.ref (q 0)), some (.int (iz v1)), some (.int (iz v2))] [] (wM y q Y) := by
  intro n
  induction n with
  | zero => intro v1 v2 Y; exact g_none
  | succ n hk_23 =>
    intro v1 v2 Y
    unfold fX4_share_l23
    refine g_iload_n hX dX4_share_23 (rfl : 23 + 1 = 24) rfl ?_
    refine g_aload_n hX dX4_share_24 (rfl : 24 + 1 = 25) rfl ?_
    refine ge_M_X4_73_M hX dX4_share_25 (rfl : 25 + 3 = 28) ?_
    refine g_icmp_ge (tgt := 46) hX dX4_share_28 (by decide) (rfl : 28 + 3 = 31) ?_ ?_
    · refine g_drop (lv' := [some (.ref (q 0)), some (.int (iz v1)), none]) 2 rfl ?_
      exact wX4_share_46 hX v1 Y
    · refine g_iload_n hX dX4_share_31 (rfl : 31 + 1 = 32) rfl ?_
      refine g_aload_n hX dX4_share_32 (rfl : 32 + 1 = 33) rfl ?_
      refine ge_M_X4_16_M hX dX4_share_33 (rfl : 33 + 3 = 36) ?_
      refine g_iload_n hX dX4_share_36 (rfl : 36 + 1 = 37) rfl ?_
      refine al_M_M_6 hX dX4_share_37 (rfl : 37 + 1 = 38) ?_
      refine g_iadd hX dX4_share_38 (rfl : 38 + 1 = 39) ?_
      refine g_istore_n (lv' := fun x101 => [some (.ref (q 0)), some (.int (iz x101)), some (.int (iz v2))]) hX dX4_share_39 (rfl : 39 + 1 = 40) rfl (fun _ => rfl) (fun x101 => ?_)
      refine g_iinc (lv' := fun x102 => [some (.ref (q 0)), some (.int (iz x101)), some (.int (iz x102))]) hX dX4_share_40 (rfl : 40 + 3 = 43) rfl (fun _ => rfl) (fun x102 => ?_)
      refine g_goto (pc' := 23) hX dX4_share_43 (by decide) ?_
      exact hk_23 x101 x102 Y
set_option maxRecDepth 100000 in
theorem kX4_share (l : Launch) (D : va_G) (y : ClassId × ClassId × ClassId) (q : Nat → Nat) (Y : St) : CtI l D y yX4_share cX4_share 3 (some .int) (rmk 0) [.ref (q 0)] (wM y q) Y (fX4_share Y) := by
  refine ctI_of (own := RX4) rfl (by decide) (cat1 rfl) rfl (fun X hl hX => ?_)
  subst hl
  show GF X cX4_share D (0, 0) (QI X D y (wM y q)) (fX4_share Y) 0 [some (.ref (q 0)), none, none] [] (wM y q Y)
  unfold fX4_share
  refine g_aload_n hX dX4_share_0 (rfl : 0 + 1 = 1) rfl ?_
  refine ge_M_X4_81_M hX dX4_share_1 (rfl : 1 + 3 = 4) ?_
  refine g_if_ne (tgt := 10) hX dX4_share_4 (by decide) (rfl : 4 + 3 = 7) ?_ ?_
  · refine g_aload_n hX dX4_share_10 (rfl : 10 + 1 = 11) rfl ?_
    refine ge_M_X4_73_M hX dX4_share_11 (rfl : 11 + 3 = 14) ?_
    refine g_if_ne (tgt := 19) hX dX4_share_14 (by decide) (rfl : 14 + 3 = 17) ?_ ?_
    · refine g_iconst hX dX4_share_19 (rfl : 19 + 1 = 20) ?_
      refine g_istore_n (lv' := fun x1 => [some (.ref (q 0)), some (.int (iz x1)), none]) hX dX4_share_20 (rfl : 20 + 1 = 21) rfl (fun _ => rfl) (fun x1 => ?_)
      refine g_iconst hX dX4_share_21 (rfl : 21 + 1 = 22) ?_
      refine g_istore_n (lv' := fun x2 => [some (.ref (q 0)), some (.int (iz x1)), some (.int (iz x2))]) hX dX4_share_22 (rfl : 22 + 1 = 23) rfl (fun _ => rfl) (fun x2 => ?_)
      exact wX4_share_23 hX FU x1 x2 Y
    · refine g_iconst hX dX4_share_17 (rfl : 17 + 1 = 18) ?_
      exact g_iret hX dX4_share_18
  · refine g_bipush hX dX4_share_7 (by decide) (rfl : 7 + 2 = 9) ?_
    exact g_iret hX dX4_share_9
set_option maxRecDepth 100000 in
theorem wX4_sizeOf_24 {X : Cx} {D : va_G} {y : ClassId × ClassId × ClassId} {q : Nat → Nat} (hX : OKX X cX4_sizeOf RX4 (rmk 0) (some .int) D y) (v2 : Int) (Y : St) : GF X cX4_sizeOf D (0, 0) (QI X D y (wM y q)) (fX4_sizeOf_j24 v2 Y) 24 [some (.ref (q 0)), none, some (.int (iz v2)), none] [] (wM y q Y) := by
  unfold fX4_sizeOf_j24
  refine g_iload_n hX dX4_sizeOf_24 (rfl : 24 + 1 = 25) rfl ?_
  exact g_iret hX dX4_sizeOf_25
set_option maxRecDepth 100000 in
theorem wX4_sizeOf_4 {X : Cx} {D : va_G} {y : ClassId × ClassId × ClassId} {q : Nat → Nat} (hX : OKX X cX4_sizeOf RX4 (rmk 0) (some .int) D y) : ∀ (n : Nat) (v1 v2 v3 : Int) (Y : St), GF X cX4_sizeOf D (0, 0) (QI X D y (wM y q)) (fX4_sizeOf_l4 n v1 v2 v3 Y) 4 [some (.ref (q 0)), some (.int (iz v1)), some (.int (iz v2)), some (.int (iz v3))] [] (wM y q Y) := by
  intro n
  induction n with
  | zero => intro v1 v2 v3 Y; exact g_none
  | succ n hk_4 =>
    intro v1 v2 v3 Y
    unfold fX4_sizeOf_l4
    refine g_iload_n hX dX4_sizeOf_4 (rfl : 4 + 1 = 5) rfl ?_
    refine g_bipush hX dX4_sizeOf_5 (by decide) (rfl : 5 + 2 = 7) ?_
    refine g_icmp_ge (tgt := 24) hX dX4_sizeOf_7 (by decide) (rfl : 7 + 3 = 10) ?_ ?_
    · refine g_drop (lv' := [some (.ref (q 0)), none, some (.int (iz v2)), some (.int (iz v3))]) 1 rfl ?_
      refine g_drop (lv' := [some (.ref (q 0)), none, some (.int (iz v2)), none]) 3 rfl ?_
      exact wX4_sizeOf_24 hX v2 Y
    · refine g_iload_n hX dX4_sizeOf_10 (rfl : 10 + 1 = 11) rfl ?_
      refine g_iload_n hX dX4_sizeOf_11 (rfl : 11 + 1 = 12) rfl ?_
      refine g_iload_n hX dX4_sizeOf_12 (rfl : 12 + 1 = 13) rfl ?_
      refine g_ishr hX dX4_sizeOf_13 (rfl : 13 + 1 = 14) ?_
      refine g_iconst hX dX4_sizeOf_14 (rfl : 14 + 1 = 15) ?_
      refine g_iand hX dX4_sizeOf_15 (rfl : 15 + 1 = 16) ?_
      refine g_iadd hX dX4_sizeOf_16 (rfl : 16 + 1 = 17) ?_
      refine g_istore_n (lv' := fun x101 => [some (.ref (q 0)), some (.int (iz v1)), some (.int (iz x101)), some (.int (iz v3))]) hX dX4_sizeOf_17 (rfl : 17 + 1 = 18) rfl (fun _ => rfl) (fun x101 => ?_)
      refine g_iinc (lv' := fun x102 => [some (.ref (q 0)), some (.int (iz v1)), some (.int (iz x101)), some (.int (iz x102))]) hX dX4_sizeOf_18 (rfl : 18 + 3 = 21) rfl (fun _ => rfl) (fun x102 => ?_)
      refine g_goto (pc' := 4) hX dX4_sizeOf_21 (by decide) ?_
      exact hk_4 v1 x101 x102 Y
set_option maxRecDepth 100000 in
theorem kX4_sizeOf (l : Launch) (D : va_G) (y : ClassId × ClassId × ClassId) (q : Nat → Nat) (Y : St) (a0 : Int) : CtI l D y yX4_sizeOf cX4_sizeOf 4 (some .int) (rmk 0) [.ref (q 0), .int (iz a0)] (wM y q) Y (fX4_sizeOf Y a0) := by
  refine ctI_of (own := RX4) rfl (by decide) (cat1 rfl) rfl (fun X hl hX => ?_)
  subst hl
  show GF X cX4_sizeOf D (0, 0) (QI X D y (wM y q)) (fX4_sizeOf Y a0) 0 [some (.ref (q 0)), some (.int (iz a0)), none, none] [] (wM y q Y)
  unfold fX4_sizeOf
  refine g_iconst hX dX4_sizeOf_0 (rfl : 0 + 1 = 1) ?_
  refine g_istore_n (lv' := fun x1 => [some (.ref (q 0)), some (.int (iz a0)), some (.int (iz x1)), none]) hX dX4_sizeOf_1 (rfl : 1 + 1 = 2) rfl (fun _ => rfl) (fun x1 => ?_)
  refine g_iconst hX dX4_sizeOf_2 (rfl : 2 + 1 = 3) ?_
  refine g_istore_n (lv' := fun x2 => [some (.ref (q 0)), some (.int (iz a0)), some (.int (iz x1)), some (.int (iz x2))]) hX dX4_sizeOf_3 (rfl : 3 + 1 = 4) rfl (fun _ => rfl) (fun x2 => ?_)
  exact wX4_sizeOf_4 hX FU a0 x1 x2 Y
set_option maxRecDepth 100000 in
theorem wX4_behind_15 {X : Cx} {D : va_G} {y : ClassId × ClassId × ClassId} {q : Nat → Nat} (hX : OKX X cX4_behind RX4 (rmk 0) (some .int) D y) (v1 v4 s0 : Int) (Y : St) : GF X cX4_behind D (0, 0) (QI X D y (wM y q)) (fX4_behind_j15 v1 v4 s0 Y) 15 [some (.ref (q 0)), some (.int (iz v1)), none, none, some (.int (iz v4)), none] [.int (iz s0)] (wM y q Y) := by
  unfold fX4_behind_j15
  refine g_istore (lv' := fun x101 => [some (.ref (q 0)), some (.int (iz v1)), none, none, some (.int (iz v4)), some (.int (iz x101))]) hX dX4_behind_15 (rfl : 15 + 2 = 17) rfl (fun _ => rfl) (fun x101 => ?_)
  refine g_aload_n hX dX4_behind_17 (rfl : 17 + 1 = 18) rfl ?_
  refine ge_M_X4_7_M hX dX4_behind_18 (rfl : 18 + 3 = 21) ?_
  refine g_aload_n hX dX4_behind_21 (rfl : 21 + 1 = 22) rfl ?_
  refine ge_M_X4_13_M hX dX4_behind_22 (rfl : 22 + 3 = 25) ?_
  refine g_iload_n hX dX4_behind_25 (rfl : 25 + 1 = 26) rfl ?_
  refine al_M_M_1 hX dX4_behind_26 (rfl : 26 + 1 = 27) ?_
  refine al_M_M_0 hX dX4_behind_27 (rfl : 27 + 1 = 28) ?_
  refine g_aload_n hX dX4_behind_28 (rfl : 28 + 1 = 29) rfl ?_
  refine ge_M_X4_60_M hX dX4_behind_29 (rfl : 29 + 3 = 32) ?_
  refine g_sipush hX dX4_behind_32 (by decide) (rfl : 32 + 3 = 35) ?_
  refine g_iload_n hX dX4_behind_35 (rfl : 35 + 1 = 36) rfl ?_
  refine g_iconst hX dX4_behind_36 (rfl : 36 + 1 = 37) ?_
  refine g_iadd hX dX4_behind_37 (rfl : 37 + 1 = 38) ?_
  refine g_imul hX dX4_behind_38 (rfl : 38 + 1 = 39) ?_
  refine g_iload hX dX4_behind_39 (rfl : 39 + 2 = 41) rfl ?_
  refine g_iconst hX dX4_behind_41 (rfl : 41 + 1 = 42) ?_
  refine g_iload hX dX4_behind_42 (rfl : 42 + 2 = 44) rfl ?_
  refine g_ishl hX dX4_behind_44 (rfl : 44 + 1 = 45) ?_
  refine g_ior hX dX4_behind_45 (rfl : 45 + 1 = 46) ?_
  refine g_iadd hX dX4_behind_46 (rfl : 46 + 1 = 47) ?_
  refine al_M_M_30 hX dX4_behind_47 (rfl : 47 + 1 = 48) ?_
  refine g_iadd hX dX4_behind_48 (rfl : 48 + 1 = 49) ?_
  exact g_iret hX dX4_behind_49
set_option maxRecDepth 100000 in
theorem kX4_behind (l : Launch) (D : va_G) (y : ClassId × ClassId × ClassId) (q : Nat → Nat) (Y : St) (a0 a1 a2 a3 : Int) : CtI l D y yX4_behind cX4_behind 6 (some .int) (rmk 0) [.ref (q 0), .int (iz a0), .int (iz a1), .int (iz a2), .int (iz a3)] (wM y q) Y (fX4_behind Y a0 a1 a2 a3) := by
  refine ctI_of (own := RX4) rfl (by decide) (cat1 rfl) rfl (fun X hl hX => ?_)
  subst hl
  show GF X cX4_behind D (0, 0) (QI X D y (wM y q)) (fX4_behind Y a0 a1 a2 a3) 0 [some (.ref (q 0)), some (.int (iz a0)), some (.int (iz a1)), some (.int (iz a2)), some (.int (iz a3)), none] [] (wM y q Y)
  unfold fX4_behind
  refine g_iload_n hX dX4_behind_0 (rfl : 0 + 1 = 1) rfl ?_
  refine g_if_ge (tgt := 8) hX dX4_behind_1 (by decide) (rfl : 1 + 3 = 4) ?_ ?_
  · refine g_iload_n hX dX4_behind_8 (rfl : 8 + 1 = 9) rfl ?_
    refine g_iconst hX dX4_behind_9 (rfl : 9 + 1 = 10) ?_
    refine g_iload_n hX dX4_behind_10 (rfl : 10 + 1 = 11) rfl ?_
    refine g_ishl hX dX4_behind_11 (rfl : 11 + 1 = 12) ?_
    refine g_iconst hX dX4_behind_12 (rfl : 12 + 1 = 13) ?_
    refine g_ixor hX dX4_behind_13 (rfl : 13 + 1 = 14) ?_
    refine g_iand hX dX4_behind_14 (rfl : 14 + 1 = 15) ?_
    refine g_drop (lv' := [some (.ref (q 0)), some (.int (iz a0)), none, some (.int (iz a2)), some (.int (iz a3)), none]) 2 rfl ?_
    refine g_drop (lv' := [some (.ref (q 0)), some (.int (iz a0)), none, none, some (.int (iz a3)), none]) 3 rfl ?_
    exact wX4_behind_15 hX a0 a3 ((andI a1 (xorI (shlI 1 a2) (-1)))) Y
  · refine g_iload_n hX dX4_behind_4 (rfl : 4 + 1 = 5) rfl ?_
    refine g_goto (pc' := 15) hX dX4_behind_5 (by decide) ?_
    refine g_drop (lv' := [some (.ref (q 0)), some (.int (iz a0)), none, some (.int (iz a2)), some (.int (iz a3)), none]) 2 rfl ?_
    refine g_drop (lv' := [some (.ref (q 0)), some (.int (iz a0)), none, none, some (.int (iz a3)), none]) 3 rfl ?_
    exact wX4_behind_15 hX a0 a3 a1 Y
set_option maxRecDepth 100000 in
theorem wX4_leastFor_115 {X : Cx} {D : va_G} {y : ClassId × ClassId × ClassId} {q : Nat → Nat} (hX : OKX X cX4_leastFor RX4 (rmk 1) (some .int) D y) (v5 : Int) (Y : St) : GF X cX4_leastFor D (0, 0) (QI X D y (wM y q)) (fX4_leastFor_j115 v5 Y) 115 [some (.ref (q 0)), none, none, none, none, some (.int (iz v5)), none, none] [] (wM y q Y) := by
  unfold fX4_leastFor_j115
  refine g_iload hX dX4_leastFor_115 (rfl : 115 + 2 = 117) rfl ?_
  exact g_iret hX dX4_leastFor_117
set_option maxRecDepth 100000 in
theorem wX4_leastFor_109 {X : Cx} {D : va_G} {y : ClassId × ClassId × ClassId} {q : Nat → Nat} (hX : OKX X cX4_leastFor RX4 (rmk 1) (some .int) D y) {k_64 : Int → Int → Int → Int → Int → (St) → Option (Int × (St))} (hk_64 : ∀ (v1 v2 v4 v5 v6 : Int) (Y : St), GF X cX4_leastFor D (0, 0) (QI X D y (wM y q)) (k_64 v1 v2 v4 v5 v6 Y) 64 [some (.ref (q 0)), some (.int (iz v1)), some (.int (iz v2)), none, some (.int (iz v4)), some (.int (iz v5)), some (.int (iz v6)), none] [] (wM y q Y)) (v1 v2 v4 v5 v6 : Int) (Y : St) : GF X cX4_leastFor D (0, 0) (QI X D y (wM y q)) (fX4_leastFor_j109 k_64 v1 v2 v4 v5 v6 Y) 109 [some (.ref (q 0)), some (.int (iz v1)), some (.int (iz v2)), none, some (.int (iz v4)), some (.int (iz v5)), some (.int (iz v6)), none] [] (wM y q Y) := by
  unfold fX4_leastFor_j109
  refine g_iinc (lv' := fun x101 => [some (.ref (q 0)), some (.int (iz v1)), some (.int (iz v2)), none, some (.int (iz v4)), some (.int (iz v5)), some (.int (iz x101)), none]) hX dX4_leastFor_109 (rfl : 109 + 3 = 112) rfl (fun _ => rfl) (fun x101 => ?_)
  refine g_goto (pc' := 64) hX dX4_leastFor_112 (by decide) ?_
  exact hk_64 v1 v2 v4 v5 x101 Y
set_option maxRecDepth 100000 in
theorem wX4_leastFor_107 {X : Cx} {D : va_G} {y : ClassId × ClassId × ClassId} {q : Nat → Nat} (hX : OKX X cX4_leastFor RX4 (rmk 1) (some .int) D y) {k_64 : Int → Int → Int → Int → Int → (St) → Option (Int × (St))} (hk_64 : ∀ (v1 v2 v4 v5 v6 : Int) (Y : St), GF X cX4_leastFor D (0, 0) (QI X D y (wM y q)) (k_64 v1 v2 v4 v5 v6 Y) 64 [some (.ref (q 0)), some (.int (iz v1)), some (.int (iz v2)), none, some (.int (iz v4)), some (.int (iz v5)), some (.int (iz v6)), none] [] (wM y q Y)) (v1 v2 v4 v6 s0 : Int) (Y : St) : GF X cX4_leastFor D (0, 0) (QI X D y (wM y q)) (fX4_leastFor_j107 k_64 v1 v2 v4 v6 s0 Y) 107 [some (.ref (q 0)), some (.int (iz v1)), some (.int (iz v2)), none, some (.int (iz v4)), none, some (.int (iz v6)), none] [.int (iz s0)] (wM y q Y) := by
  unfold fX4_leastFor_j107
  refine g_istore (lv' := fun x102 => [some (.ref (q 0)), some (.int (iz v1)), some (.int (iz v2)), none, some (.int (iz v4)), some (.int (iz x102)), some (.int (iz v6)), none]) hX dX4_leastFor_107 (rfl : 107 + 2 = 109) rfl (fun _ => rfl) (fun x102 => ?_)
  exact wX4_leastFor_109 hX hk_64 v1 v2 v4 x102 v6 Y
set_option maxRecDepth 100000 in
theorem wX4_leastFor_64 {X : Cx} {D : va_G} {y : ClassId × ClassId × ClassId} {q : Nat → Nat} (hX : OKX X cX4_leastFor RX4 (rmk 1) (some .int) D y) : ∀ (n : Nat) (v1 v2 v4 v5 v6 : Int) (Y : St), GF X cX4_leastFor D (0, 0) (QI X D y (wM y q)) (fX4_leastFor_l64 n v1 v2 v4 v5 v6 Y) 64 [some (.ref (q 0)), some (.int (iz v1)), some (.int (iz v2)), none, some (.int (iz v4)), some (.int (iz v5)), some (.int (iz v6)), none] [] (wM y q Y) := by
  intro n
  induction n with
  | zero => intro v1 v2 v4 v5 v6 Y; exact g_none
  | succ n hk_64 =>
    intro v1 v2 v4 v5 v6 Y
    unfold fX4_leastFor_l64
    refine g_iload hX dX4_leastFor_64 (rfl : 64 + 2 = 66) rfl ?_
    refine g_bipush hX dX4_leastFor_66 (by decide) (rfl : 66 + 2 = 68) ?_
    refine g_icmp_ge (tgt := 115) hX dX4_leastFor_68 (by decide) (rfl : 68 + 3 = 71) ?_ ?_
    · refine g_drop (lv' := [some (.ref (q 0)), none, some (.int (iz v2)), none, some (.int (iz v4)), some (.int (iz v5)), some (.int (iz v6)), none]) 1 rfl ?_
      refine g_drop (lv' := [some (.ref (q 0)), none, none, none, some (.int (iz v4)), some (.int (iz v5)), some (.int (iz v6)), none]) 2 rfl ?_
      refine g_drop (lv' := [some (.ref (q 0)), none, none, none, none, some (.int (iz v5)), some (.int (iz v6)), none]) 4 rfl ?_
      refine g_drop (lv' := [some (.ref (q 0)), none, none, none, none, some (.int (iz v5)), none, none]) 6 rfl ?_
      exact wX4_leastFor_115 hX v5 Y
    · refine g_iload_n hX dX4_leastFor_71 (rfl : 71 + 1 = 72) rfl ?_
      refine g_iload hX dX4_leastFor_72 (rfl : 72 + 2 = 74) rfl ?_
      refine g_ishr hX dX4_leastFor_74 (rfl : 74 + 1 = 75) ?_
      refine g_iconst hX dX4_leastFor_75 (rfl : 75 + 1 = 76) ?_
      refine g_iand hX dX4_leastFor_76 (rfl : 76 + 1 = 77) ?_
      refine g_iconst hX dX4_leastFor_77 (rfl : 77 + 1 = 78) ?_
      refine g_icmp_ne (tgt := 109) hX dX4_leastFor_78 (by decide) (rfl : 78 + 3 = 81) ?_ ?_
      · exact wX4_leastFor_109 hX hk_64 v1 v2 v4 v5 v6 Y
      · refine g_aload_n hX dX4_leastFor_81 (rfl : 81 + 1 = 82) rfl ?_
        refine g_iload_n hX dX4_leastFor_82 (rfl : 82 + 1 = 83) rfl ?_
        refine g_iload_n hX dX4_leastFor_83 (rfl : 83 + 1 = 84) rfl ?_
        refine g_iload hX dX4_leastFor_84 (rfl : 84 + 2 = 86) rfl ?_
        refine g_iload hX dX4_leastFor_86 (rfl : 86 + 2 = 88) rfl ?_
        refine ci_MM hX (kX4_behind _ _ _ (q) _ _ _ _ _) mw_X4_217 (by decide) rfl rfl (Nat.le_of_ble_eq_true rfl) dX4_leastFor_88 (rfl : 88 + 3 = 91) (fun r104 Y103 => ?_)
        refine g_istore (lv' := fun x105 => [some (.ref (q 0)), some (.int (iz v1)), some (.int (iz v2)), none, some (.int (iz v4)), some (.int (iz v5)), some (.int (iz v6)), some (.int (iz x105))]) hX dX4_leastFor_91 (rfl : 91 + 2 = 93) rfl (fun _ => rfl) (fun x105 => ?_)
        refine g_iload hX dX4_leastFor_93 (rfl : 93 + 2 = 95) rfl ?_
        refine g_iload hX dX4_leastFor_95 (rfl : 95 + 2 = 97) rfl ?_
        refine g_icmp_ge (tgt := 105) hX dX4_leastFor_97 (by decide) (rfl : 97 + 3 = 100) ?_ ?_
        · refine g_iload hX dX4_leastFor_105 (rfl : 105 + 2 = 107) rfl ?_
          refine g_drop (lv' := [some (.ref (q 0)), some (.int (iz v1)), some (.int (iz v2)), none, some (.int (iz v4)), none, some (.int (iz v6)), some (.int (iz x105))]) 5 rfl ?_
          refine g_drop (lv' := [some (.ref (q 0)), some (.int (iz v1)), some (.int (iz v2)), none, some (.int (iz v4)), none, some (.int (iz v6)), none]) 7 rfl ?_
          exact wX4_leastFor_107 hX hk_64 v1 v2 v4 v6 v5 Y103
        · refine g_iload hX dX4_leastFor_100 (rfl : 100 + 2 = 102) rfl ?_
          refine g_goto (pc' := 107) hX dX4_leastFor_102 (by decide) ?_
          refine g_drop (lv' := [some (.ref (q 0)), some (.int (iz v1)), some (.int (iz v2)), none, some (.int (iz v4)), none, some (.int (iz v6)), some (.int (iz x105))]) 5 rfl ?_
          refine g_drop (lv' := [some (.ref (q 0)), some (.int (iz v1)), some (.int (iz v2)), none, some (.int (iz v4)), none, some (.int (iz v6)), none]) 7 rfl ?_
          exact wX4_leastFor_107 hX hk_64 v1 v2 v4 v6 x105 Y103
