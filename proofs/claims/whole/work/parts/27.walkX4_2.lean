set_option maxRecDepth 100000 in
theorem kX4_leastFor (l : Launch) (D : va_G) (y : ClassId × ClassId × ClassId) (q : Nat → Nat) (Y : St) (a0 a1 a2 : Int) : CtI l D y yX4_leastFor cX4_leastFor 8 (some .int) (rmk 1) [.ref (q 0), .int (iz a0), .int (iz a1), .int (iz a2)] (wM y q) Y (fX4_leastFor Y a0 a1 a2) := by
  refine ctI_of (own := RX4) rfl (by decide) (cat1 rfl) rfl (fun X hl hX => ?_)
  subst hl
  show GF X cX4_leastFor D (0, 0) (QI X D y (wM y q)) (fX4_leastFor Y a0 a1 a2) 0 [some (.ref (q 0)), some (.int (iz a0)), some (.int (iz a1)), some (.int (iz a2)), none, none, none, none] [] (wM y q Y)
  unfold fX4_leastFor
  refine g_aload_n hX dX4_leastFor_0 (rfl : 0 + 1 = 1) rfl ?_
  refine ge_M_X4_56_M hX dX4_leastFor_1 (rfl : 1 + 3 = 4) ?_
  refine g_aload_n hX dX4_leastFor_4 (rfl : 4 + 1 = 5) rfl ?_
  refine ge_M_X4_13_M hX dX4_leastFor_5 (rfl : 5 + 3 = 8) ?_
  refine g_iload_n hX dX4_leastFor_8 (rfl : 8 + 1 = 9) rfl ?_
  refine al_M_M_1 hX dX4_leastFor_9 (rfl : 9 + 1 = 10) ?_
  refine al_M_M_29 hX dX4_leastFor_10 (rfl : 10 + 1 = 11) ?_
  refine g_istore (lv' := fun x1 => [some (.ref (q 0)), some (.int (iz a0)), some (.int (iz a1)), some (.int (iz a2)), some (.int (iz x1)), none, none, none]) hX dX4_leastFor_11 (rfl : 11 + 2 = 13) rfl (fun _ => rfl) (fun x1 => ?_)
  refine g_iload_n hX dX4_leastFor_13 (rfl : 13 + 1 = 14) rfl ?_
  refine g_iload hX dX4_leastFor_14 (rfl : 14 + 2 = 16) rfl ?_
  refine g_ishr hX dX4_leastFor_16 (rfl : 16 + 1 = 17) ?_
  refine g_iconst hX dX4_leastFor_17 (rfl : 17 + 1 = 18) ?_
  refine g_iand hX dX4_leastFor_18 (rfl : 18 + 1 = 19) ?_
  refine g_iconst hX dX4_leastFor_19 (rfl : 19 + 1 = 20) ?_
  refine g_icmp_ne (tgt := 38) hX dX4_leastFor_20 (by decide) (rfl : 20 + 3 = 23) ?_ ?_
  · refine g_aload_n hX dX4_leastFor_38 (rfl : 38 + 1 = 39) rfl ?_
    refine g_iload_n hX dX4_leastFor_39 (rfl : 39 + 1 = 40) rfl ?_
    refine ci_MM hX (kX4_sizeOf _ _ _ (q) _ _) mw_X4_214 (by decide) rfl rfl (Nat.le_of_ble_eq_true rfl) dX4_leastFor_40 (rfl : 40 + 3 = 43) (fun r3 Y2 => ?_)
    refine g_iload_n hX dX4_leastFor_43 (rfl : 43 + 1 = 44) rfl ?_
    refine g_icmp_ge (tgt := 57) hX dX4_leastFor_44 (by decide) (rfl : 44 + 3 = 47) ?_ ?_
    · refine g_ldc hX (2147483647) mc_X4_221 (by decide) dX4_leastFor_57 (rfl : 57 + 2 = 59) ?_
      refine g_istore (lv' := fun x4 => [some (.ref (q 0)), some (.int (iz a0)), some (.int (iz a1)), some (.int (iz a2)), some (.int (iz x1)), some (.int (iz x4)), none, none]) hX dX4_leastFor_59 (rfl : 59 + 2 = 61) rfl (fun _ => rfl) (fun x4 => ?_)
      refine g_iconst hX dX4_leastFor_61 (rfl : 61 + 1 = 62) ?_
      refine g_istore (lv' := fun x5 => [some (.ref (q 0)), some (.int (iz a0)), some (.int (iz a1)), some (.int (iz a2)), some (.int (iz x1)), some (.int (iz x4)), some (.int (iz x5)), none]) hX dX4_leastFor_62 (rfl : 62 + 2 = 64) rfl (fun _ => rfl) (fun x5 => ?_)
      refine g_drop (lv' := [some (.ref (q 0)), some (.int (iz a0)), some (.int (iz a1)), none, some (.int (iz x1)), some (.int (iz x4)), some (.int (iz x5)), none]) 3 rfl ?_
      exact wX4_leastFor_64 hX FU a0 a1 x1 x4 x5 Y2
    · refine g_aload_n hX dX4_leastFor_47 (rfl : 47 + 1 = 48) rfl ?_
      refine g_iload_n hX dX4_leastFor_48 (rfl : 48 + 1 = 49) rfl ?_
      refine g_iload_n hX dX4_leastFor_49 (rfl : 49 + 1 = 50) rfl ?_
      refine g_iconst hX dX4_leastFor_50 (rfl : 50 + 1 = 51) ?_
      refine g_iload hX dX4_leastFor_51 (rfl : 51 + 2 = 53) rfl ?_
      refine ci_MM hX (kX4_behind _ _ _ (q) _ _ _ _ _) mw_X4_217 (by decide) rfl rfl (Nat.le_of_ble_eq_true rfl) dX4_leastFor_53 (rfl : 53 + 3 = 56) (fun r7 Y6 => ?_)
      exact g_iret hX dX4_leastFor_56
  · refine g_aload_n hX dX4_leastFor_23 (rfl : 23 + 1 = 24) rfl ?_
    refine ge_M_X4_60_M hX dX4_leastFor_24 (rfl : 24 + 3 = 27) ?_
    refine g_sipush hX dX4_leastFor_27 (by decide) (rfl : 27 + 3 = 30) ?_
    refine g_iload_n hX dX4_leastFor_30 (rfl : 30 + 1 = 31) rfl ?_
    refine g_iconst hX dX4_leastFor_31 (rfl : 31 + 1 = 32) ?_
    refine g_iadd hX dX4_leastFor_32 (rfl : 32 + 1 = 33) ?_
    refine g_imul hX dX4_leastFor_33 (rfl : 33 + 1 = 34) ?_
    refine g_iload_n hX dX4_leastFor_34 (rfl : 34 + 1 = 35) rfl ?_
    refine g_iadd hX dX4_leastFor_35 (rfl : 35 + 1 = 36) ?_
    refine al_M_M_30 hX dX4_leastFor_36 (rfl : 36 + 1 = 37) ?_
    exact g_iret hX dX4_leastFor_37
set_option maxRecDepth 100000 in
theorem wX4_findLeast_174 {X : Cx} {D : va_G} {y : ClassId × ClassId × ClassId} {q : Nat → Nat} (hX : OKX X cX4_findLeast RX4 (rmk 2) (some .boolean) D y) {k_109 : Int → Int → (St) → Option (Int × (St))} (hk_109 : ∀ (v1 v3 : Int) (Y : St), GF X cX4_findLeast D (0, 0) (QI X D y (wM y q)) (k_109 v1 v3 Y) 109 [some (.ref (q 0)), some (.int (iz v1)), none, some (.int (iz v3)), none] [] (wM y q Y)) (v1 v3 : Int) (Y : St) : GF X cX4_findLeast D (0, 0) (QI X D y (wM y q)) (fX4_findLeast_j174 k_109 v1 v3 Y) 174 [some (.ref (q 0)), some (.int (iz v1)), none, some (.int (iz v3)), none] [] (wM y q Y) := by
  unfold fX4_findLeast_j174
  refine g_iinc (lv' := fun x101 => [some (.ref (q 0)), some (.int (iz v1)), none, some (.int (iz x101)), none]) hX dX4_findLeast_174 (rfl : 174 + 3 = 177) rfl (fun _ => rfl) (fun x101 => ?_)
  refine g_goto (pc' := 109) hX dX4_findLeast_177 (by decide) ?_
  exact hk_109 v1 x101 Y
set_option maxRecDepth 100000 in
theorem wX4_findLeast_167 {X : Cx} {D : va_G} {y : ClassId × ClassId × ClassId} {q : Nat → Nat} (hX : OKX X cX4_findLeast RX4 (rmk 2) (some .boolean) D y) {k_109 : Int → Int → (St) → Option (Int × (St))} {k_116 : Int → Int → Int → (St) → Option (Int × (St))} (hk_109 : ∀ (v1 v3 : Int) (Y : St), GF X cX4_findLeast D (0, 0) (QI X D y (wM y q)) (k_109 v1 v3 Y) 109 [some (.ref (q 0)), some (.int (iz v1)), none, some (.int (iz v3)), none] [] (wM y q Y)) (hk_116 : ∀ (v1 v3 v4 : Int) (Y : St), GF X cX4_findLeast D (0, 0) (QI X D y (wM y q)) (k_116 v1 v3 v4 Y) 116 [some (.ref (q 0)), some (.int (iz v1)), none, some (.int (iz v3)), some (.int (iz v4))] [] (wM y q Y)) (v1 v3 v4 s0 s1 : Int) (Y : St) : GF X cX4_findLeast D (0, 0) (QI X D y (wM y q)) (fX4_findLeast_j167 k_109 k_116 v1 v3 v4 s0 s1 Y) 167 [some (.ref (q 0)), some (.int (iz v1)), none, some (.int (iz v3)), some (.int (iz v4))] [.int (iz s0), .int (iz s1), .ref (q 17)] (wM y q Y) := by
  unfold fX4_findLeast_j167
  refine as_M_M_30 hX dX4_findLeast_167 (rfl : 167 + 1 = 168) (fun Y102 => ?_)
  refine g_iinc (lv' := fun x103 => [some (.ref (q 0)), some (.int (iz v1)), none, some (.int (iz v3)), some (.int (iz x103))]) hX dX4_findLeast_168 (rfl : 168 + 3 = 171) rfl (fun _ => rfl) (fun x103 => ?_)
  refine g_goto (pc' := 116) hX dX4_findLeast_171 (by decide) ?_
  exact hk_116 v1 v3 x103 Y102
set_option maxRecDepth 100000 in
theorem wX4_findLeast_155 {X : Cx} {D : va_G} {y : ClassId × ClassId × ClassId} {q : Nat → Nat} (hX : OKX X cX4_findLeast RX4 (rmk 2) (some .boolean) D y) {k_109 : Int → Int → (St) → Option (Int × (St))} {k_116 : Int → Int → Int → (St) → Option (Int × (St))} (hk_109 : ∀ (v1 v3 : Int) (Y : St), GF X cX4_findLeast D (0, 0) (QI X D y (wM y q)) (k_109 v1 v3 Y) 109 [some (.ref (q 0)), some (.int (iz v1)), none, some (.int (iz v3)), none] [] (wM y q Y)) (hk_116 : ∀ (v1 v3 v4 : Int) (Y : St), GF X cX4_findLeast D (0, 0) (QI X D y (wM y q)) (k_116 v1 v3 v4 Y) 116 [some (.ref (q 0)), some (.int (iz v1)), none, some (.int (iz v3)), some (.int (iz v4))] [] (wM y q Y)) (v1 v3 v4 s0 : Int) (Y : St) : GF X cX4_findLeast D (0, 0) (QI X D y (wM y q)) (fX4_findLeast_j155 k_109 k_116 v1 v3 v4 s0 Y) 155 [some (.ref (q 0)), some (.int (iz v1)), none, some (.int (iz v3)), some (.int (iz v4))] [.int (iz s0), .ref (q 17)] (wM y q Y) := by
  unfold fX4_findLeast_j155
  refine g_iconst hX dX4_findLeast_155 (rfl : 155 + 1 = 156) ?_
  refine g_goto (pc' := 167) hX dX4_findLeast_156 (by decide) ?_
  exact wX4_findLeast_167 hX hk_109 hk_116 v1 v3 v4 0 s0 Y
set_option maxRecDepth 100000 in
theorem wX4_findLeast_116 {X : Cx} {D : va_G} {y : ClassId × ClassId × ClassId} {q : Nat → Nat} (hX : OKX X cX4_findLeast RX4 (rmk 2) (some .boolean) D y) {k_109 : Int → Int → (St) → Option (Int × (St))} (hk_109 : ∀ (v1 v3 : Int) (Y : St), GF X cX4_findLeast D (0, 0) (QI X D y (wM y q)) (k_109 v1 v3 Y) 109 [some (.ref (q 0)), some (.int (iz v1)), none, some (.int (iz v3)), none] [] (wM y q Y)) : ∀ (n : Nat) (v1 v3 v4 : Int) (Y : St), GF X cX4_findLeast D (0, 0) (QI X D y (wM y q)) (fX4_findLeast_l116 k_109 n v1 v3 v4 Y) 116 [some (.ref (q 0)), some (.int (iz v1)), none, some (.int (iz v3)), some (.int (iz v4))] [] (wM y q Y) := by
  intro n
  induction n with
  | zero => intro v1 v3 v4 Y; exact g_none
  | succ n hk_116 =>
    intro v1 v3 v4 Y
    unfold fX4_findLeast_l116
    refine g_iload hX dX4_findLeast_116 (rfl : 116 + 2 = 118) rfl ?_
    refine g_aload_n hX dX4_findLeast_118 (rfl : 118 + 1 = 119) rfl ?_
    refine ge_M_X4_222_M hX dX4_findLeast_119 (rfl : 119 + 3 = 122) ?_
    refine g_icmp_ge (tgt := 174) hX dX4_findLeast_122 (by decide) (rfl : 122 + 3 = 125) ?_ ?_
    · refine g_drop (lv' := [some (.ref (q 0)), some (.int (iz v1)), none, some (.int (iz v3)), none]) 4 rfl ?_
      exact wX4_findLeast_174 hX hk_109 v1 v3 Y
    · refine g_aload_n hX dX4_findLeast_125 (rfl : 125 + 1 = 126) rfl ?_
      refine ge_M_X4_60_M hX dX4_findLeast_126 (rfl : 126 + 3 = 129) ?_
      refine g_sipush hX dX4_findLeast_129 (by decide) (rfl : 129 + 3 = 132) ?_
      refine g_iload_n hX dX4_findLeast_132 (rfl : 132 + 1 = 133) rfl ?_
      refine g_imul hX dX4_findLeast_133 (rfl : 133 + 1 = 134) ?_
      refine g_iload hX dX4_findLeast_134 (rfl : 134 + 2 = 136) rfl ?_
      refine g_iadd hX dX4_findLeast_136 (rfl : 136 + 1 = 137) ?_
      refine g_iload_n hX dX4_findLeast_137 (rfl : 137 + 1 = 138) rfl ?_
      refine g_aload_n hX dX4_findLeast_138 (rfl : 138 + 1 = 139) rfl ?_
      refine ge_M_X4_73_M hX dX4_findLeast_139 (rfl : 139 + 3 = 142) ?_
      refine g_icmp_eq (tgt := 155) hX dX4_findLeast_142 (by decide) (rfl : 142 + 3 = 145) ?_ ?_
      · exact wX4_findLeast_155 hX hk_109 hk_116 v1 v3 v4 (((1024 * v3) + v4)) Y
      · refine g_aload_n hX dX4_findLeast_145 (rfl : 145 + 1 = 146) rfl ?_
        refine g_iload hX dX4_findLeast_146 (rfl : 146 + 2 = 148) rfl ?_
        refine ci_MM hX (kX4_sizeOf _ _ _ (q) _ _) mw_X4_214 (by decide) rfl rfl (Nat.le_of_ble_eq_true rfl) dX4_findLeast_148 (rfl : 148 + 3 = 151) (fun r105 Y104 => ?_)
        refine g_iload_n hX dX4_findLeast_151 (rfl : 151 + 1 = 152) rfl ?_
        refine g_icmp_le (tgt := 159) hX dX4_findLeast_152 (by decide) (rfl : 152 + 3 = 155) ?_ ?_
        · refine g_aload_n hX dX4_findLeast_159 (rfl : 159 + 1 = 160) rfl ?_
          refine g_iload_n hX dX4_findLeast_160 (rfl : 160 + 1 = 161) rfl ?_
          refine g_iload hX dX4_findLeast_161 (rfl : 161 + 2 = 163) rfl ?_
          refine g_iload_n hX dX4_findLeast_163 (rfl : 163 + 1 = 164) rfl ?_
          refine ci_MM hX (kX4_leastFor _ _ _ (q) _ _ _ _) mw_X4_225 (by decide) rfl rfl (Nat.le_of_ble_eq_true rfl) dX4_findLeast_164 (rfl : 164 + 3 = 167) (fun r107 Y106 => ?_)
          exact wX4_findLeast_167 hX hk_109 hk_116 v1 v3 v4 r107 (((1024 * v3) + v4)) Y106
        · exact wX4_findLeast_155 hX hk_109 hk_116 v1 v3 v4 (((1024 * v3) + v4)) Y104
set_option maxRecDepth 100000 in
theorem wX4_findLeast_109 {X : Cx} {D : va_G} {y : ClassId × ClassId × ClassId} {q : Nat → Nat} (hX : OKX X cX4_findLeast RX4 (rmk 2) (some .boolean) D y) : ∀ (n : Nat) (v1 v3 : Int) (Y : St), GF X cX4_findLeast D (0, 0) (QI X D y (wM y q)) (fX4_findLeast_l109 n v1 v3 Y) 109 [some (.ref (q 0)), some (.int (iz v1)), none, some (.int (iz v3)), none] [] (wM y q Y) := by
  intro n
  induction n with
  | zero => intro v1 v3 Y; exact g_none
  | succ n hk_109 =>
    intro v1 v3 Y
    unfold fX4_findLeast_l109
    refine g_iload_n hX dX4_findLeast_109 (rfl : 109 + 1 = 110) rfl ?_
    refine g_if_lt (tgt := 180) hX dX4_findLeast_110 (by decide) (rfl : 110 + 3 = 113) ?_ ?_
    · refine g_iconst hX dX4_findLeast_180 (rfl : 180 + 1 = 181) ?_
      exact g_zret hX dX4_findLeast_181
    · refine g_iconst hX dX4_findLeast_113 (rfl : 113 + 1 = 114) ?_
      refine g_istore (lv' := fun x108 => [some (.ref (q 0)), some (.int (iz v1)), none, some (.int (iz v3)), some (.int (iz x108))]) hX dX4_findLeast_114 (rfl : 114 + 2 = 116) rfl (fun _ => rfl) (fun x108 => ?_)
      exact wX4_findLeast_116 hX hk_109 FU v1 v3 x108 Y
set_option maxRecDepth 100000 in
theorem wX4_findLeast_89 {X : Cx} {D : va_G} {y : ClassId × ClassId × ClassId} {q : Nat → Nat} (hX : OKX X cX4_findLeast RX4 (rmk 2) (some .boolean) D y) (v1 v2 : Int) (Y : St) : GF X cX4_findLeast D (0, 0) (QI X D y (wM y q)) (fX4_findLeast_j89 v1 v2 Y) 89 [some (.ref (q 0)), some (.int (iz v1)), some (.int (iz v2)), none, none] [] (wM y q Y) := by
  unfold fX4_findLeast_j89
  refine g_iload_n hX dX4_findLeast_89 (rfl : 89 + 1 = 90) rfl ?_
  refine g_bipush hX dX4_findLeast_90 (by decide) (rfl : 90 + 2 = 92) ?_
  refine g_icmp_le (tgt := 97) hX dX4_findLeast_92 (by decide) (rfl : 92 + 3 = 95) ?_ ?_
  · refine g_aload_n hX dX4_findLeast_97 (rfl : 97 + 1 = 98) rfl ?_
    refine g_iconst hX dX4_findLeast_98 (rfl : 98 + 1 = 99) ?_
    refine g_iload_n hX dX4_findLeast_99 (rfl : 99 + 1 = 100) rfl ?_
    refine g_ishl hX dX4_findLeast_100 (rfl : 100 + 1 = 101) ?_
    refine pu_M_X4_222_M hX dX4_findLeast_101 (rfl : 101 + 3 = 104) (fun Y109 => ?_)
    refine g_aload_n hX dX4_findLeast_104 (rfl : 104 + 1 = 105) rfl ?_
    refine ge_M_X4_73_M hX dX4_findLeast_105 (rfl : 105 + 3 = 108) ?_
    refine g_istore_n (lv' := fun x110 => [some (.ref (q 0)), some (.int (iz v1)), some (.int (iz v2)), some (.int (iz x110)), none]) hX dX4_findLeast_108 (rfl : 108 + 1 = 109) rfl (fun _ => rfl) (fun x110 => ?_)
    refine g_drop (lv' := [some (.ref (q 0)), some (.int (iz v1)), none, some (.int (iz x110)), none]) 2 rfl ?_
    exact wX4_findLeast_109 hX FU v1 x110 Y109
  · refine g_iconst hX dX4_findLeast_95 (rfl : 95 + 1 = 96) ?_
    exact g_zret hX dX4_findLeast_96
set_option maxRecDepth 100000 in
theorem wX4_findLeast_81 {X : Cx} {D : va_G} {y : ClassId × ClassId × ClassId} {q : Nat → Nat} (hX : OKX X cX4_findLeast RX4 (rmk 2) (some .boolean) D y) {k_4 : Int → Int → Int → (St) → Option (Int × (St))} (hk_4 : ∀ (v1 v2 v3 : Int) (Y : St), GF X cX4_findLeast D (0, 0) (QI X D y (wM y q)) (k_4 v1 v2 v3 Y) 4 [some (.ref (q 0)), some (.int (iz v1)), some (.int (iz v2)), some (.int (iz v3)), none] [] (wM y q Y)) (v1 v3 s0 s1 : Int) (Y : St) : GF X cX4_findLeast D (0, 0) (QI X D y (wM y q)) (fX4_findLeast_j81 k_4 v1 v3 s0 s1 Y) 81 [some (.ref (q 0)), some (.int (iz v1)), none, some (.int (iz v3)), none] [.int (iz s0), .int (iz s1)] (wM y q Y) := by
  unfold fX4_findLeast_j81
  refine g_iadd hX dX4_findLeast_81 (rfl : 81 + 1 = 82) ?_
  refine g_istore_n (lv' := fun x111 => [some (.ref (q 0)), some (.int (iz v1)), some (.int (iz x111)), some (.int (iz v3)), none]) hX dX4_findLeast_82 (rfl : 82 + 1 = 83) rfl (fun _ => rfl) (fun x111 => ?_)
  refine g_iinc (lv' := fun x112 => [some (.ref (q 0)), some (.int (iz v1)), some (.int (iz x111)), some (.int (iz x112)), none]) hX dX4_findLeast_83 (rfl : 83 + 3 = 86) rfl (fun _ => rfl) (fun x112 => ?_)
  refine g_goto (pc' := 4) hX dX4_findLeast_86 (by decide) ?_
  exact hk_4 v1 x111 x112 Y
set_option maxRecDepth 100000 in
theorem wX4_findLeast_66 {X : Cx} {D : va_G} {y : ClassId × ClassId × ClassId} {q : Nat → Nat} (hX : OKX X cX4_findLeast RX4 (rmk 2) (some .boolean) D y) {k_4 : Int → Int → Int → (St) → Option (Int × (St))} (hk_4 : ∀ (v1 v2 v3 : Int) (Y : St), GF X cX4_findLeast D (0, 0) (QI X D y (wM y q)) (k_4 v1 v2 v3 Y) 4 [some (.ref (q 0)), some (.int (iz v1)), some (.int (iz v2)), some (.int (iz v3)), none] [] (wM y q Y)) (v1 v2 v3 : Int) (Y : St) : GF X cX4_findLeast D (0, 0) (QI X D y (wM y q)) (fX4_findLeast_j66 k_4 v1 v2 v3 Y) 66 [some (.ref (q 0)), some (.int (iz v1)), some (.int (iz v2)), some (.int (iz v3)), none] [] (wM y q Y) := by
  unfold fX4_findLeast_j66
  refine g_iload_n hX dX4_findLeast_66 (rfl : 66 + 1 = 67) rfl ?_
  refine g_aload_n hX dX4_findLeast_67 (rfl : 67 + 1 = 68) rfl ?_
  refine ge_M_X4_56_M hX dX4_findLeast_68 (rfl : 68 + 3 = 71) ?_
  refine g_iload_n hX dX4_findLeast_71 (rfl : 71 + 1 = 72) rfl ?_
  refine al_M_M_29 hX dX4_findLeast_72 (rfl : 72 + 1 = 73) ?_
  refine g_if_lt (tgt := 80) hX dX4_findLeast_73 (by decide) (rfl : 73 + 3 = 76) ?_ ?_
  · refine g_iconst hX dX4_findLeast_80 (rfl : 80 + 1 = 81) ?_
    refine g_drop (lv' := [some (.ref (q 0)), some (.int (iz v1)), none, some (.int (iz v3)), none]) 2 rfl ?_
    exact wX4_findLeast_81 hX hk_4 v1 v3 0 v2 Y
  · refine g_iconst hX dX4_findLeast_76 (rfl : 76 + 1 = 77) ?_
    refine g_goto (pc' := 81) hX dX4_findLeast_77 (by decide) ?_
    refine g_drop (lv' := [some (.ref (q 0)), some (.int (iz v1)), none, some (.int (iz v3)), none]) 2 rfl ?_
    exact wX4_findLeast_81 hX hk_4 v1 v3 1 v2 Y
set_option maxRecDepth 100000 in
theorem wX4_findLeast_59 {X : Cx} {D : va_G} {y : ClassId × ClassId × ClassId} {q : Nat → Nat} (hX : OKX X cX4_findLeast RX4 (rmk 2) (some .boolean) D y) {k_4 : Int → Int → Int → (St) → Option (Int × (St))} {k_20 : Int → Int → Int → Int → (St) → Option (Int × (St))} (hk_4 : ∀ (v1 v2 v3 : Int) (Y : St), GF X cX4_findLeast D (0, 0) (QI X D y (wM y q)) (k_4 v1 v2 v3 Y) 4 [some (.ref (q 0)), some (.int (iz v1)), some (.int (iz v2)), some (.int (iz v3)), none] [] (wM y q Y)) (hk_20 : ∀ (v1 v2 v3 v4 : Int) (Y : St), GF X cX4_findLeast D (0, 0) (QI X D y (wM y q)) (k_20 v1 v2 v3 v4 Y) 20 [some (.ref (q 0)), some (.int (iz v1)), some (.int (iz v2)), some (.int (iz v3)), some (.int (iz v4))] [] (wM y q Y)) (v1 v2 v3 v4 s0 s1 : Int) (Y : St) : GF X cX4_findLeast D (0, 0) (QI X D y (wM y q)) (fX4_findLeast_j59 k_4 k_20 v1 v2 v3 v4 s0 s1 Y) 59 [some (.ref (q 0)), some (.int (iz v1)), some (.int (iz v2)), some (.int (iz v3)), some (.int (iz v4))] [.int (iz s0), .int (iz s1), .ref (q 16)] (wM y q Y) := by
  unfold fX4_findLeast_j59
  refine as_M_M_29 hX dX4_findLeast_59 (rfl : 59 + 1 = 60) (fun Y113 => ?_)
  refine g_iinc (lv' := fun x114 => [some (.ref (q 0)), some (.int (iz v1)), some (.int (iz v2)), some (.int (iz v3)), some (.int (iz x114))]) hX dX4_findLeast_60 (rfl : 60 + 3 = 63) rfl (fun _ => rfl) (fun x114 => ?_)
  refine g_goto (pc' := 20) hX dX4_findLeast_63 (by decide) ?_
  exact hk_20 v1 v2 v3 x114 Y113
set_option maxRecDepth 100000 in
theorem wX4_findLeast_20 {X : Cx} {D : va_G} {y : ClassId × ClassId × ClassId} {q : Nat → Nat} (hX : OKX X cX4_findLeast RX4 (rmk 2) (some .boolean) D y) {k_4 : Int → Int → Int → (St) → Option (Int × (St))} (hk_4 : ∀ (v1 v2 v3 : Int) (Y : St), GF X cX4_findLeast D (0, 0) (QI X D y (wM y q)) (k_4 v1 v2 v3 Y) 4 [some (.ref (q 0)), some (.int (iz v1)), some (.int (iz v2)), some (.int (iz v3)), none] [] (wM y q Y)) : ∀ (n : Nat) (v1 v2 v3 v4 : Int) (Y : St), GF X cX4_findLeast D (0, 0) (QI X D y (wM y q)) (fX4_findLeast_l20 k_4 n v1 v2 v3 v4 Y) 20 [some (.ref (q 0)), some (.int (iz v1)), some (.int (iz v2)), some (.int (iz v3)), some (.int (iz v4))] [] (wM y q Y) := by
  intro n
  induction n with
  | zero => intro v1 v2 v3 v4 Y; exact g_none
  | succ n hk_20 =>
    intro v1 v2 v3 v4 Y
    unfold fX4_findLeast_l20
    refine g_iload hX dX4_findLeast_20 (rfl : 20 + 2 = 22) rfl ?_
    refine g_aload_n hX dX4_findLeast_22 (rfl : 22 + 1 = 23) rfl ?_
    refine ge_M_X4_73_M hX dX4_findLeast_23 (rfl : 23 + 3 = 26) ?_
    refine g_icmp_ge (tgt := 66) hX dX4_findLeast_26 (by decide) (rfl : 26 + 3 = 29) ?_ ?_
    · refine g_drop (lv' := [some (.ref (q 0)), some (.int (iz v1)), some (.int (iz v2)), some (.int (iz v3)), none]) 4 rfl ?_
      exact wX4_findLeast_66 hX hk_4 v1 v2 v3 Y
    · refine g_aload_n hX dX4_findLeast_29 (rfl : 29 + 1 = 30) rfl ?_
      refine ge_M_X4_56_M hX dX4_findLeast_30 (rfl : 30 + 3 = 33) ?_
      refine g_iload_n hX dX4_findLeast_33 (rfl : 33 + 1 = 34) rfl ?_
      refine al_M_M_29 hX dX4_findLeast_34 (rfl : 34 + 1 = 35) ?_
      refine g_if_ge (tgt := 66) hX dX4_findLeast_35 (by decide) (rfl : 35 + 3 = 38) ?_ ?_
      · refine g_drop (lv' := [some (.ref (q 0)), some (.int (iz v1)), some (.int (iz v2)), some (.int (iz v3)), none]) 4 rfl ?_
        exact wX4_findLeast_66 hX hk_4 v1 v2 v3 Y
      · refine g_aload_n hX dX4_findLeast_38 (rfl : 38 + 1 = 39) rfl ?_
        refine ge_M_X4_56_M hX dX4_findLeast_39 (rfl : 39 + 3 = 42) ?_
        refine g_iload_n hX dX4_findLeast_42 (rfl : 42 + 1 = 43) rfl ?_
        refine g_aload_n hX dX4_findLeast_43 (rfl : 43 + 1 = 44) rfl ?_
        refine ge_M_X4_13_M hX dX4_findLeast_44 (rfl : 44 + 3 = 47) ?_
        refine g_iload hX dX4_findLeast_47 (rfl : 47 + 2 = 49) rfl ?_
        refine al_M_M_1 hX dX4_findLeast_49 (rfl : 49 + 1 = 50) ?_
        refine g_iload_n hX dX4_findLeast_50 (rfl : 50 + 1 = 51) rfl ?_
        refine g_icmp_ne (tgt := 58) hX dX4_findLeast_51 (by decide) (rfl : 51 + 3 = 54) ?_ ?_
        · refine g_iconst hX dX4_findLeast_58 (rfl : 58 + 1 = 59) ?_
          exact wX4_findLeast_59 hX hk_4 hk_20 v1 v2 v3 v4 ((-1)) v3 Y
        · refine g_iload_n hX dX4_findLeast_54 (rfl : 54 + 1 = 55) rfl ?_
          refine g_goto (pc' := 59) hX dX4_findLeast_55 (by decide) ?_
          exact wX4_findLeast_59 hX hk_4 hk_20 v1 v2 v3 v4 v2 v3 Y
set_option maxRecDepth 100000 in
theorem wX4_findLeast_4 {X : Cx} {D : va_G} {y : ClassId × ClassId × ClassId} {q : Nat → Nat} (hX : OKX X cX4_findLeast RX4 (rmk 2) (some .boolean) D y) : ∀ (n : Nat) (v1 v2 v3 : Int) (Y : St), GF X cX4_findLeast D (0, 0) (QI X D y (wM y q)) (fX4_findLeast_l4 n v1 v2 v3 Y) 4 [some (.ref (q 0)), some (.int (iz v1)), some (.int (iz v2)), some (.int (iz v3)), none] [] (wM y q Y) := by
  intro n
  induction n with
  | zero => intro v1 v2 v3 Y; exact g_none
  | succ n hk_4 =>
    intro v1 v2 v3 Y
    unfold fX4_findLeast_l4
    refine g_iload_n hX dX4_findLeast_4 (rfl : 4 + 1 = 5) rfl ?_
    refine g_bipush hX dX4_findLeast_5 (by decide) (rfl : 5 + 2 = 7) ?_
    refine g_icmp_ge (tgt := 89) hX dX4_findLeast_7 (by decide) (rfl : 7 + 3 = 10) ?_ ?_
    · refine g_drop (lv' := [some (.ref (q 0)), some (.int (iz v1)), some (.int (iz v2)), none, none]) 3 rfl ?_
      exact wX4_findLeast_89 hX v1 v2 Y
    · refine g_aload_n hX dX4_findLeast_10 (rfl : 10 + 1 = 11) rfl ?_
      refine ge_M_X4_56_M hX dX4_findLeast_11 (rfl : 11 + 3 = 14) ?_
      refine g_iload_n hX dX4_findLeast_14 (rfl : 14 + 1 = 15) rfl ?_
      refine g_iconst hX dX4_findLeast_15 (rfl : 15 + 1 = 16) ?_
      refine as_M_M_29 hX dX4_findLeast_16 (rfl : 16 + 1 = 17) (fun Y115 => ?_)
      refine g_iconst hX dX4_findLeast_17 (rfl : 17 + 1 = 18) ?_
      refine g_istore (lv' := fun x116 => [some (.ref (q 0)), some (.int (iz v1)), some (.int (iz v2)), some (.int (iz v3)), some (.int (iz x116))]) hX dX4_findLeast_18 (rfl : 18 + 2 = 20) rfl (fun _ => rfl) (fun x116 => ?_)
      exact wX4_findLeast_20 hX hk_4 FU v1 v2 v3 x116 Y115
set_option maxRecDepth 100000 in
theorem kX4_findLeast (l : Launch) (D : va_G) (y : ClassId × ClassId × ClassId) (q : Nat → Nat) (Y : St) (a0 : Int) : CtI l D y yX4_findLeast cX4_findLeast 5 (some .boolean) (rmk 2) [.ref (q 0), .int (iz a0)] (wM y q) Y (fX4_findLeast Y a0) := by
  refine ctI_of (own := RX4) rfl (by decide) (cat1 rfl) rfl (fun X hl hX => ?_)
  subst hl
  show GF X cX4_findLeast D (0, 0) (QI X D y (wM y q)) (fX4_findLeast Y a0) 0 [some (.ref (q 0)), some (.int (iz a0)), none, none, none] [] (wM y q Y)
  unfold fX4_findLeast
  refine g_iconst hX dX4_findLeast_0 (rfl : 0 + 1 = 1) ?_
  refine g_istore_n (lv' := fun x1 => [some (.ref (q 0)), some (.int (iz a0)), some (.int (iz x1)), none, none]) hX dX4_findLeast_1 (rfl : 1 + 1 = 2) rfl (fun _ => rfl) (fun x1 => ?_)
  refine g_iconst hX dX4_findLeast_2 (rfl : 2 + 1 = 3) ?_
  refine g_istore_n (lv' := fun x2 => [some (.ref (q 0)), some (.int (iz a0)), some (.int (iz x1)), some (.int (iz x2)), none]) hX dX4_findLeast_3 (rfl : 3 + 1 = 4) rfl (fun _ => rfl) (fun x2 => ?_)
  exact wX4_findLeast_4 hX FU a0 x1 x2 Y
set_option maxRecDepth 100000 in
theorem wX4_least__31 {X : Cx} {D : va_G} {y : ClassId × ClassId × ClassId} {q : Nat → Nat} (hX : OKX X cX4_least_ RX4 (rmk 3) (some .int) D y) (s0 : Int) (Y : St) : GF X cX4_least_ D (0, 0) (QI X D y (wM y q)) (fX4_least__j31 s0 Y) 31 [some (.ref (q 0)), none] [.int (iz s0)] (wM y q Y) := by
  unfold fX4_least__j31
  exact g_iret hX dX4_least__31
set_option maxRecDepth 100000 in
theorem kX4_least_ (l : Launch) (D : va_G) (y : ClassId × ClassId × ClassId) (q : Nat → Nat) (Y : St) (a0 : Int) : CtI l D y yX4_least_ cX4_least_ 2 (some .int) (rmk 3) [.ref (q 0), .int (iz a0)] (wM y q) Y (fX4_least_ Y a0) := by
  refine ctI_of (own := RX4) rfl (by decide) (cat1 rfl) rfl (fun X hl hX => ?_)
  subst hl
  show GF X cX4_least_ D (0, 0) (QI X D y (wM y q)) (fX4_least_ Y a0) 0 [some (.ref (q 0)), some (.int (iz a0))] [] (wM y q Y)
  unfold fX4_least_
  refine g_iload_n hX dX4_least__0 (rfl : 0 + 1 = 1) rfl ?_
  refine g_iconst hX dX4_least__1 (rfl : 1 + 1 = 2) ?_
  refine g_bipush hX dX4_least__2 (by decide) (rfl : 2 + 2 = 4) ?_
  refine g_callp hX (kX4_in _ _ _ _ _ _) mw_X4_69 (by decide) rfl rfl (Nat.le_of_ble_eq_true rfl) dX4_least__4 (rfl : 4 + 3 = 7) (fun r1 => ?_)
  refine g_if_ne (tgt := 12) hX dX4_least__7 (by decide) (rfl : 7 + 3 = 10) ?_ ?_
  · refine g_aload_n hX dX4_least__12 (rfl : 12 + 1 = 13) rfl ?_
    refine g_iload_n hX dX4_least__13 (rfl : 13 + 1 = 14) rfl ?_
    refine ci_MM hX (kX4_findLeast _ _ _ (q) _ _) mw_X4_229 (by decide) rfl rfl (Nat.le_of_ble_eq_true rfl) dX4_least__14 (rfl : 14 + 3 = 17) (fun r3 Y2 => ?_)
    refine g_if_eq (tgt := 29) hX dX4_least__17 (by decide) (rfl : 17 + 3 = 20) ?_ ?_
    · refine g_bipush hX dX4_least__29 (by decide) (rfl : 29 + 2 = 31) ?_
      refine g_drop (lv' := [some (.ref (q 0)), none]) 1 rfl ?_
      exact wX4_least__31 hX ((-5)) Y2
    · refine g_aload_n hX dX4_least__20 (rfl : 20 + 1 = 21) rfl ?_
      refine ge_M_X4_60_M hX dX4_least__21 (rfl : 21 + 3 = 24) ?_
      refine g_iconst hX dX4_least__24 (rfl : 24 + 1 = 25) ?_
      refine al_M_M_30 hX dX4_least__25 (rfl : 25 + 1 = 26) ?_
      refine g_goto (pc' := 31) hX dX4_least__26 (by decide) ?_
      refine g_drop (lv' := [some (.ref (q 0)), none]) 1 rfl ?_
      exact wX4_least__31 hX ((Y2.2 30 (Int.toNat 0))) Y2
  · refine g_iconst hX dX4_least__10 (rfl : 10 + 1 = 11) ?_
    exact g_iret hX dX4_least__11
set_option maxRecDepth 100000 in
theorem wX4_thingAt_32 {X : Cx} {D : va_G} {y : ClassId × ClassId × ClassId} {q : Nat → Nat} (hX : OKX X cX4_thingAt RX4 (rmk 0) (some .int) D y) (v2 : Int) (Y : St) : GF X cX4_thingAt D (0, 0) (QI X D y (wM y q)) (fX4_thingAt_j32 v2 Y) 32 [some (.ref (q 0)), none, some (.int (iz v2)), none] [] (wM y q Y) := by
  unfold fX4_thingAt_j32
  refine g_iload_n hX dX4_thingAt_32 (rfl : 32 + 1 = 33) rfl ?_
  exact g_iret hX dX4_thingAt_33
set_option maxRecDepth 100000 in
theorem wX4_thingAt_25 {X : Cx} {D : va_G} {y : ClassId × ClassId × ClassId} {q : Nat → Nat} (hX : OKX X cX4_thingAt RX4 (rmk 0) (some .int) D y) {k_4 : Int → Int → Int → (St) → Option (Int × (St))} (hk_4 : ∀ (v1 v2 v3 : Int) (Y : St), GF X cX4_thingAt D (0, 0) (QI X D y (wM y q)) (k_4 v1 v2 v3 Y) 4 [some (.ref (q 0)), some (.int (iz v1)), some (.int (iz v2)), some (.int (iz v3))] [] (wM y q Y)) (v1 v3 s0 : Int) (Y : St) : GF X cX4_thingAt D (0, 0) (QI X D y (wM y q)) (fX4_thingAt_j25 k_4 v1 v3 s0 Y) 25 [some (.ref (q 0)), some (.int (iz v1)), none, some (.int (iz v3))] [.int (iz s0)] (wM y q Y) := by
  unfold fX4_thingAt_j25
  refine g_istore_n (lv' := fun x101 => [some (.ref (q 0)), some (.int (iz v1)), some (.int (iz x101)), some (.int (iz v3))]) hX dX4_thingAt_25 (rfl : 25 + 1 = 26) rfl (fun _ => rfl) (fun x101 => ?_)
  refine g_iinc (lv' := fun x102 => [some (.ref (q 0)), some (.int (iz v1)), some (.int (iz x101)), some (.int (iz x102))]) hX dX4_thingAt_26 (rfl : 26 + 3 = 29) rfl (fun _ => rfl) (fun x102 => ?_)
  refine g_goto (pc' := 4) hX dX4_thingAt_29 (by decide) ?_
  exact hk_4 v1 x101 x102 Y
set_option maxRecDepth 100000 in
theorem wX4_thingAt_4 {X : Cx} {D : va_G} {y : ClassId × ClassId × ClassId} {q : Nat → Nat} (hX : OKX X cX4_thingAt RX4 (rmk 0) (some .int) D y) : ∀ (n : Nat) (v1 v2 v3 : Int) (Y : St), GF X cX4_thingAt D (0, 0) (QI X D y (wM y q)) (fX4_thingAt_l4 n v1 v2 v3 Y) 4 [some (.ref (q 0)), some (.int (iz v1)), some (.int (iz v2)), some (.int (iz v3))] [] (wM y q Y) := by
  intro n
  induction n with
  | zero => intro v1 v2 v3 Y; exact g_none
  | succ n hk_4 =>
    intro v1 v2 v3 Y
    unfold fX4_thingAt_l4
    refine g_iload_n hX dX4_thingAt_4 (rfl : 4 + 1 = 5) rfl ?_
    refine g_bipush hX dX4_thingAt_5 (by decide) (rfl : 5 + 2 = 7) ?_
    refine g_icmp_ge (tgt := 32) hX dX4_thingAt_7 (by decide) (rfl : 7 + 3 = 10) ?_ ?_
    · refine g_drop (lv' := [some (.ref (q 0)), none, some (.int (iz v2)), some (.int (iz v3))]) 1 rfl ?_
      refine g_drop (lv' := [some (.ref (q 0)), none, some (.int (iz v2)), none]) 3 rfl ?_
      exact wX4_thingAt_32 hX v2 Y
    · refine g_aload_n hX dX4_thingAt_10 (rfl : 10 + 1 = 11) rfl ?_
      refine ge_M_X4_56_M hX dX4_thingAt_11 (rfl : 11 + 3 = 14) ?_
      refine g_iload_n hX dX4_thingAt_14 (rfl : 14 + 1 = 15) rfl ?_
      refine al_M_M_29 hX dX4_thingAt_15 (rfl : 15 + 1 = 16) ?_
      refine g_iload_n hX dX4_thingAt_16 (rfl : 16 + 1 = 17) rfl ?_
      refine g_icmp_ne (tgt := 24) hX dX4_thingAt_17 (by decide) (rfl : 17 + 3 = 20) ?_ ?_
      · refine g_iload_n hX dX4_thingAt_24 (rfl : 24 + 1 = 25) rfl ?_
        refine g_drop (lv' := [some (.ref (q 0)), some (.int (iz v1)), none, some (.int (iz v3))]) 2 rfl ?_
        exact wX4_thingAt_25 hX hk_4 v1 v3 v2 Y
      · refine g_iload_n hX dX4_thingAt_20 (rfl : 20 + 1 = 21) rfl ?_
        refine g_goto (pc' := 25) hX dX4_thingAt_21 (by decide) ?_
        refine g_drop (lv' := [some (.ref (q 0)), some (.int (iz v1)), none, some (.int (iz v3))]) 2 rfl ?_
        exact wX4_thingAt_25 hX hk_4 v1 v3 v3 Y
set_option maxRecDepth 100000 in
theorem kX4_thingAt (l : Launch) (D : va_G) (y : ClassId × ClassId × ClassId) (q : Nat → Nat) (Y : St) (a0 : Int) : CtI l D y yX4_thingAt cX4_thingAt 4 (some .int) (rmk 0) [.ref (q 0), .int (iz a0)] (wM y q) Y (fX4_thingAt Y a0) := by
  refine ctI_of (own := RX4) rfl (by decide) (cat1 rfl) rfl (fun X hl hX => ?_)
  subst hl
  show GF X cX4_thingAt D (0, 0) (QI X D y (wM y q)) (fX4_thingAt Y a0) 0 [some (.ref (q 0)), some (.int (iz a0)), none, none] [] (wM y q Y)
  unfold fX4_thingAt
  refine g_iconst hX dX4_thingAt_0 (rfl : 0 + 1 = 1) ?_
  refine g_istore_n (lv' := fun x1 => [some (.ref (q 0)), some (.int (iz a0)), some (.int (iz x1)), none]) hX dX4_thingAt_1 (rfl : 1 + 1 = 2) rfl (fun _ => rfl) (fun x1 => ?_)
  refine g_iconst hX dX4_thingAt_2 (rfl : 2 + 1 = 3) ?_
  refine g_istore_n (lv' := fun x2 => [some (.ref (q 0)), some (.int (iz a0)), some (.int (iz x1)), some (.int (iz x2))]) hX dX4_thingAt_3 (rfl : 3 + 1 = 4) rfl (fun _ => rfl) (fun x2 => ?_)
  exact wX4_thingAt_4 hX FU a0 x1 x2 Y
set_option maxRecDepth 100000 in
theorem wX4_goes_182 {X : Cx} {D : va_G} {y : ClassId × ClassId × ClassId} {q : Nat → Nat} (hX : OKX X cX4_goes RX4 (rmk 3) (some .int) D y) (s0 : Int) (Y : St) : GF X cX4_goes D (0, 0) (QI X D y (wM y q)) (fX4_goes_j182 s0 Y) 182 [some (.ref (q 0)), none, none, none, none, none, none, none] [.int (iz s0)] (wM y q Y) := by
  unfold fX4_goes_j182
  exact g_iret hX dX4_goes_182
set_option maxRecDepth 100000 in
theorem wX4_goes_167 {X : Cx} {D : va_G} {y : ClassId × ClassId × ClassId} {q : Nat → Nat} (hX : OKX X cX4_goes RX4 (rmk 3) (some .int) D y) (v4 : Int) (Y : St) : GF X cX4_goes D (0, 0) (QI X D y (wM y q)) (fX4_goes_j167 v4 Y) 167 [some (.ref (q 0)), none, none, none, some (.int (iz v4)), none, none, none] [] (wM y q Y) := by
  unfold fX4_goes_j167
  refine g_iload hX dX4_goes_167 (rfl : 167 + 2 = 169) rfl ?_
  refine g_if_ge (tgt := 176) hX dX4_goes_169 (by decide) (rfl : 169 + 3 = 172) ?_ ?_
  · refine g_aload_n hX dX4_goes_176 (rfl : 176 + 1 = 177) rfl ?_
    refine g_iload hX dX4_goes_177 (rfl : 177 + 2 = 179) rfl ?_
    refine ci_MM hX (kX4_thingAt _ _ _ (q) _ _) mw_X4_232 (by decide) rfl rfl (Nat.le_of_ble_eq_true rfl) dX4_goes_179 (rfl : 179 + 3 = 182) (fun r102 Y101 => ?_)
    refine g_drop (lv' := [some (.ref (q 0)), none, none, none, none, none, none, none]) 4 rfl ?_
    exact wX4_goes_182 hX r102 Y101
  · refine g_iconst hX dX4_goes_172 (rfl : 172 + 1 = 173) ?_
    refine g_goto (pc' := 182) hX dX4_goes_173 (by decide) ?_
    refine g_drop (lv' := [some (.ref (q 0)), none, none, none, none, none, none, none]) 4 rfl ?_
    exact wX4_goes_182 hX ((-1)) Y
set_option maxRecDepth 100000 in
theorem wX4_goes_161 {X : Cx} {D : va_G} {y : ClassId × ClassId × ClassId} {q : Nat → Nat} (hX : OKX X cX4_goes RX4 (rmk 3) (some .int) D y) {k_36 : Int → Int → Int → Int → Int → (St) → Option (Int × (St))} (hk_36 : ∀ (v1 v2 v3 v4 v5 : Int) (Y : St), GF X cX4_goes D (0, 0) (QI X D y (wM y q)) (k_36 v1 v2 v3 v4 v5 Y) 36 [some (.ref (q 0)), some (.int (iz v1)), some (.int (iz v2)), some (.int (iz v3)), some (.int (iz v4)), some (.int (iz v5)), none, none] [] (wM y q Y)) (v1 v2 v3 v4 v5 : Int) (Y : St) : GF X cX4_goes D (0, 0) (QI X D y (wM y q)) (fX4_goes_j161 k_36 v1 v2 v3 v4 v5 Y) 161 [some (.ref (q 0)), some (.int (iz v1)), some (.int (iz v2)), some (.int (iz v3)), some (.int (iz v4)), some (.int (iz v5)), none, none] [] (wM y q Y) := by
  unfold fX4_goes_j161
  refine g_iinc (lv' := fun x103 => [some (.ref (q 0)), some (.int (iz v1)), some (.int (iz v2)), some (.int (iz v3)), some (.int (iz v4)), some (.int (iz x103)), none, none]) hX dX4_goes_161 (rfl : 161 + 3 = 164) rfl (fun _ => rfl) (fun x103 => ?_)
  refine g_goto (pc' := 36) hX dX4_goes_164 (by decide) ?_
  exact hk_36 v1 v2 v3 v4 x103 Y
set_option maxRecDepth 100000 in
theorem wX4_goes_155 {X : Cx} {D : va_G} {y : ClassId × ClassId × ClassId} {q : Nat → Nat} (hX : OKX X cX4_goes RX4 (rmk 3) (some .int) D y) {k_36 : Int → Int → Int → Int → Int → (St) → Option (Int × (St))} (hk_36 : ∀ (v1 v2 v3 v4 v5 : Int) (Y : St), GF X cX4_goes D (0, 0) (QI X D y (wM y q)) (k_36 v1 v2 v3 v4 v5 Y) 36 [some (.ref (q 0)), some (.int (iz v1)), some (.int (iz v2)), some (.int (iz v3)), some (.int (iz v4)), some (.int (iz v5)), none, none] [] (wM y q Y)) (v1 v2 v4 v5 v6 s0 : Int) (Y : St) : GF X cX4_goes D (0, 0) (QI X D y (wM y q)) (fX4_goes_j155 k_36 v1 v2 v4 v5 v6 s0 Y) 155 [some (.ref (q 0)), some (.int (iz v1)), some (.int (iz v2)), none, some (.int (iz v4)), some (.int (iz v5)), some (.int (iz v6)), none] [.int (iz s0)] (wM y q Y) := by
  unfold fX4_goes_j155
  refine g_iconst hX dX4_goes_155 (rfl : 155 + 1 = 156) ?_
  refine g_iload hX dX4_goes_156 (rfl : 156 + 2 = 158) rfl ?_
  refine g_ishl hX dX4_goes_158 (rfl : 158 + 1 = 159) ?_
  refine g_ior hX dX4_goes_159 (rfl : 159 + 1 = 160) ?_
  refine g_istore_n (lv' := fun x104 => [some (.ref (q 0)), some (.int (iz v1)), some (.int (iz v2)), some (.int (iz x104)), some (.int (iz v4)), some (.int (iz v5)), some (.int (iz v6)), none]) hX dX4_goes_160 (rfl : 160 + 1 = 161) rfl (fun _ => rfl) (fun x104 => ?_)
  refine g_drop (lv' := [some (.ref (q 0)), some (.int (iz v1)), some (.int (iz v2)), some (.int (iz x104)), some (.int (iz v4)), some (.int (iz v5)), none, none]) 6 rfl ?_
  exact wX4_goes_161 hX hk_36 v1 v2 x104 v4 v5 Y
set_option maxRecDepth 100000 in
theorem wX4_goes_138 {X : Cx} {D : va_G} {y : ClassId × ClassId × ClassId} {q : Nat → Nat} (hX : OKX X cX4_goes RX4 (rmk 3) (some .int) D y) {k_36 : Int → Int → Int → Int → Int → (St) → Option (Int × (St))} (hk_36 : ∀ (v1 v2 v3 v4 v5 : Int) (Y : St), GF X cX4_goes D (0, 0) (QI X D y (wM y q)) (k_36 v1 v2 v3 v4 v5 Y) 36 [some (.ref (q 0)), some (.int (iz v1)), some (.int (iz v2)), some (.int (iz v3)), some (.int (iz v4)), some (.int (iz v5)), none, none] [] (wM y q Y)) (v1 v2 v3 v4 v5 v6 : Int) (Y : St) : GF X cX4_goes D (0, 0) (QI X D y (wM y q)) (fX4_goes_j138 k_36 v1 v2 v3 v4 v5 v6 Y) 138 [some (.ref (q 0)), some (.int (iz v1)), some (.int (iz v2)), some (.int (iz v3)), some (.int (iz v4)), some (.int (iz v5)), some (.int (iz v6)), none] [] (wM y q Y) := by
  unfold fX4_goes_j138
  refine g_iload hX dX4_goes_138 (rfl : 138 + 2 = 140) rfl ?_
  refine g_if_ge (tgt := 147) hX dX4_goes_140 (by decide) (rfl : 140 + 3 = 143) ?_ ?_
  · refine g_iload_n hX dX4_goes_147 (rfl : 147 + 1 = 148) rfl ?_
    refine g_iconst hX dX4_goes_148 (rfl : 148 + 1 = 149) ?_
    refine g_iload hX dX4_goes_149 (rfl : 149 + 2 = 151) rfl ?_
    refine g_ishl hX dX4_goes_151 (rfl : 151 + 1 = 152) ?_
    refine g_iconst hX dX4_goes_152 (rfl : 152 + 1 = 153) ?_
    refine g_ixor hX dX4_goes_153 (rfl : 153 + 1 = 154) ?_
    refine g_iand hX dX4_goes_154 (rfl : 154 + 1 = 155) ?_
    refine g_drop (lv' := [some (.ref (q 0)), some (.int (iz v1)), some (.int (iz v2)), none, some (.int (iz v4)), some (.int (iz v5)), some (.int (iz v6)), none]) 3 rfl ?_
    exact wX4_goes_155 hX hk_36 v1 v2 v4 v5 v6 ((andI v3 (xorI (shlI 1 v4) (-1)))) Y
  · refine g_iload_n hX dX4_goes_143 (rfl : 143 + 1 = 144) rfl ?_
    refine g_goto (pc' := 155) hX dX4_goes_144 (by decide) ?_
    refine g_drop (lv' := [some (.ref (q 0)), some (.int (iz v1)), some (.int (iz v2)), none, some (.int (iz v4)), some (.int (iz v5)), some (.int (iz v6)), none]) 3 rfl ?_
    exact wX4_goes_155 hX hk_36 v1 v2 v4 v5 v6 v3 Y
set_option maxRecDepth 100000 in
theorem wX4_goes_130 {X : Cx} {D : va_G} {y : ClassId × ClassId × ClassId} {q : Nat → Nat} (hX : OKX X cX4_goes RX4 (rmk 3) (some .int) D y) {k_36 : Int → Int → Int → Int → Int → (St) → Option (Int × (St))} {k_72 : Int → Int → Int → Int → Int → Int → Int → (St) → Option (Int × (St))} (hk_36 : ∀ (v1 v2 v3 v4 v5 : Int) (Y : St), GF X cX4_goes D (0, 0) (QI X D y (wM y q)) (k_36 v1 v2 v3 v4 v5 Y) 36 [some (.ref (q 0)), some (.int (iz v1)), some (.int (iz v2)), some (.int (iz v3)), some (.int (iz v4)), some (.int (iz v5)), none, none] [] (wM y q Y)) (hk_72 : ∀ (v1 v2 v3 v4 v5 v6 v7 : Int) (Y : St), GF X cX4_goes D (0, 0) (QI X D y (wM y q)) (k_72 v1 v2 v3 v4 v5 v6 v7 Y) 72 [some (.ref (q 0)), some (.int (iz v1)), some (.int (iz v2)), some (.int (iz v3)), some (.int (iz v4)), some (.int (iz v5)), some (.int (iz v6)), some (.int (iz v7))] [] (wM y q Y)) (v1 v2 v3 v5 v6 v7 s0 : Int) (Y : St) : GF X cX4_goes D (0, 0) (QI X D y (wM y q)) (fX4_goes_j130 k_36 k_72 v1 v2 v3 v5 v6 v7 s0 Y) 130 [some (.ref (q 0)), some (.int (iz v1)), some (.int (iz v2)), some (.int (iz v3)), none, some (.int (iz v5)), some (.int (iz v6)), some (.int (iz v7))] [.int (iz s0)] (wM y q Y) := by
  unfold fX4_goes_j130
  refine g_istore (lv' := fun x105 => [some (.ref (q 0)), some (.int (iz v1)), some (.int (iz v2)), some (.int (iz v3)), some (.int (iz x105)), some (.int (iz v5)), some (.int (iz v6)), some (.int (iz v7))]) hX dX4_goes_130 (rfl : 130 + 2 = 132) rfl (fun _ => rfl) (fun x105 => ?_)
  refine g_iinc (lv' := fun x106 => [some (.ref (q 0)), some (.int (iz v1)), some (.int (iz v2)), some (.int (iz v3)), some (.int (iz x105)), some (.int (iz v5)), some (.int (iz v6)), some (.int (iz x106))]) hX dX4_goes_132 (rfl : 132 + 3 = 135) rfl (fun _ => rfl) (fun x106 => ?_)
  refine g_goto (pc' := 72) hX dX4_goes_135 (by decide) ?_
  exact hk_72 v1 v2 v3 x105 v5 v6 x106 Y
set_option maxRecDepth 100000 in
theorem wX4_goes_128 {X : Cx} {D : va_G} {y : ClassId × ClassId × ClassId} {q : Nat → Nat} (hX : OKX X cX4_goes RX4 (rmk 3) (some .int) D y) {k_36 : Int → Int → Int → Int → Int → (St) → Option (Int × (St))} {k_72 : Int → Int → Int → Int → Int → Int → Int → (St) → Option (Int × (St))} (hk_36 : ∀ (v1 v2 v3 v4 v5 : Int) (Y : St), GF X cX4_goes D (0, 0) (QI X D y (wM y q)) (k_36 v1 v2 v3 v4 v5 Y) 36 [some (.ref (q 0)), some (.int (iz v1)), some (.int (iz v2)), some (.int (iz v3)), some (.int (iz v4)), some (.int (iz v5)), none, none] [] (wM y q Y)) (hk_72 : ∀ (v1 v2 v3 v4 v5 v6 v7 : Int) (Y : St), GF X cX4_goes D (0, 0) (QI X D y (wM y q)) (k_72 v1 v2 v3 v4 v5 v6 v7 Y) 72 [some (.ref (q 0)), some (.int (iz v1)), some (.int (iz v2)), some (.int (iz v3)), some (.int (iz v4)), some (.int (iz v5)), some (.int (iz v6)), some (.int (iz v7))] [] (wM y q Y)) (v1 v2 v3 v4 v5 v6 v7 : Int) (Y : St) : GF X cX4_goes D (0, 0) (QI X D y (wM y q)) (fX4_goes_j128 k_36 k_72 v1 v2 v3 v4 v5 v6 v7 Y) 128 [some (.ref (q 0)), some (.int (iz v1)), some (.int (iz v2)), some (.int (iz v3)), some (.int (iz v4)), some (.int (iz v5)), some (.int (iz v6)), some (.int (iz v7))] [] (wM y q Y) := by
  unfold fX4_goes_j128
  refine g_iload hX dX4_goes_128 (rfl : 128 + 2 = 130) rfl ?_
  refine g_drop (lv' := [some (.ref (q 0)), some (.int (iz v1)), some (.int (iz v2)), some (.int (iz v3)), none, some (.int (iz v5)), some (.int (iz v6)), some (.int (iz v7))]) 4 rfl ?_
  exact wX4_goes_130 hX hk_36 hk_72 v1 v2 v3 v5 v6 v7 v4 Y
set_option maxRecDepth 100000 in
theorem wX4_goes_72 {X : Cx} {D : va_G} {y : ClassId × ClassId × ClassId} {q : Nat → Nat} (hX : OKX X cX4_goes RX4 (rmk 3) (some .int) D y) {k_36 : Int → Int → Int → Int → Int → (St) → Option (Int × (St))} (hk_36 : ∀ (v1 v2 v3 v4 v5 : Int) (Y : St), GF X cX4_goes D (0, 0) (QI X D y (wM y q)) (k_36 v1 v2 v3 v4 v5 Y) 36 [some (.ref (q 0)), some (.int (iz v1)), some (.int (iz v2)), some (.int (iz v3)), some (.int (iz v4)), some (.int (iz v5)), none, none] [] (wM y q Y)) : ∀ (n : Nat) (v1 v2 v3 v4 v5 v6 v7 : Int) (Y : St), GF X cX4_goes D (0, 0) (QI X D y (wM y q)) (fX4_goes_l72 k_36 n v1 v2 v3 v4 v5 v6 v7 Y) 72 [some (.ref (q 0)), some (.int (iz v1)), some (.int (iz v2)), some (.int (iz v3)), some (.int (iz v4)), some (.int (iz v5)), some (.int (iz v6)), some (.int (iz v7))] [] (wM y q Y) := by
  intro n
  induction n with
  | zero => intro v1 v2 v3 v4 v5 v6 v7 Y; exact g_none
  | succ n hk_72 =>
    intro v1 v2 v3 v4 v5 v6 v7 Y
    unfold fX4_goes_l72
    refine g_iload hX dX4_goes_72 (rfl : 72 + 2 = 74) rfl ?_
    refine g_if_lt (tgt := 138) hX dX4_goes_74 (by decide) (rfl : 74 + 3 = 77) ?_ ?_
    · refine g_drop (lv' := [some (.ref (q 0)), some (.int (iz v1)), some (.int (iz v2)), some (.int (iz v3)), some (.int (iz v4)), some (.int (iz v5)), some (.int (iz v6)), none]) 7 rfl ?_
      exact wX4_goes_138 hX hk_36 v1 v2 v3 v4 v5 v6 Y
    · refine g_aload_n hX dX4_goes_77 (rfl : 77 + 1 = 78) rfl ?_
      refine g_iload_n hX dX4_goes_78 (rfl : 78 + 1 = 79) rfl ?_
      refine ci_MM hX (kX4_sizeOf _ _ _ (q) _ _) mw_X4_214 (by decide) rfl rfl (Nat.le_of_ble_eq_true rfl) dX4_goes_79 (rfl : 79 + 3 = 82) (fun r108 Y107 => ?_)
      refine g_iload_n hX dX4_goes_82 (rfl : 82 + 1 = 83) rfl ?_
      refine g_icmp_ne (tgt := 138) hX dX4_goes_83 (by decide) (rfl : 83 + 3 = 86) ?_ ?_
      · refine g_drop (lv' := [some (.ref (q 0)), some (.int (iz v1)), some (.int (iz v2)), some (.int (iz v3)), some (.int (iz v4)), some (.int (iz v5)), some (.int (iz v6)), none]) 7 rfl ?_
        exact wX4_goes_138 hX hk_36 v1 v2 v3 v4 v5 v6 Y107
      · refine g_iload_n hX dX4_goes_86 (rfl : 86 + 1 = 87) rfl ?_
        refine g_iload hX dX4_goes_87 (rfl : 87 + 2 = 89) rfl ?_
        refine g_ishr hX dX4_goes_89 (rfl : 89 + 1 = 90) ?_
        refine g_iconst hX dX4_goes_90 (rfl : 90 + 1 = 91) ?_
        refine g_iand hX dX4_goes_91 (rfl : 91 + 1 = 92) ?_
        refine g_iconst hX dX4_goes_92 (rfl : 92 + 1 = 93) ?_
        refine g_icmp_ne (tgt := 128) hX dX4_goes_93 (by decide) (rfl : 93 + 3 = 96) ?_ ?_
        · exact wX4_goes_128 hX hk_36 hk_72 v1 v2 v3 v4 v5 v6 v7 Y107
        · refine g_aload_n hX dX4_goes_96 (rfl : 96 + 1 = 97) rfl ?_
          refine g_iload hX dX4_goes_97 (rfl : 97 + 2 = 99) rfl ?_
          refine g_iload_n hX dX4_goes_99 (rfl : 99 + 1 = 100) rfl ?_
          refine g_iload hX dX4_goes_100 (rfl : 100 + 2 = 102) rfl ?_
          refine g_iload hX dX4_goes_102 (rfl : 102 + 2 = 104) rfl ?_
          refine ci_MM hX (kX4_behind _ _ _ (q) _ _ _ _ _) mw_X4_217 (by decide) rfl rfl (Nat.le_of_ble_eq_true rfl) dX4_goes_104 (rfl : 104 + 3 = 107) (fun r110 Y109 => ?_)
          refine g_aload_n hX dX4_goes_107 (rfl : 107 + 1 = 108) rfl ?_
          refine ge_M_X4_60_M hX dX4_goes_108 (rfl : 108 + 3 = 111) ?_
          refine g_sipush hX dX4_goes_111 (by decide) (rfl : 111 + 3 = 114) ?_
          refine g_iload hX dX4_goes_114 (rfl : 114 + 2 = 116) rfl ?_
          refine g_imul hX dX4_goes_116 (rfl : 116 + 1 = 117) ?_
          refine g_iload_n hX dX4_goes_117 (rfl : 117 + 1 = 118) rfl ?_
          refine g_iadd hX dX4_goes_118 (rfl : 118 + 1 = 119) ?_
          refine al_M_M_30 hX dX4_goes_119 (rfl : 119 + 1 = 120) ?_
          refine g_icmp_ne (tgt := 128) hX dX4_goes_120 (by decide) (rfl : 120 + 3 = 123) ?_ ?_
          · exact wX4_goes_128 hX hk_36 hk_72 v1 v2 v3 v4 v5 v6 v7 Y109
          · refine g_iload hX dX4_goes_123 (rfl : 123 + 2 = 125) rfl ?_
            refine g_goto (pc' := 130) hX dX4_goes_125 (by decide) ?_
            refine g_drop (lv' := [some (.ref (q 0)), some (.int (iz v1)), some (.int (iz v2)), some (.int (iz v3)), none, some (.int (iz v5)), some (.int (iz v6)), some (.int (iz v7))]) 4 rfl ?_
            exact wX4_goes_130 hX hk_36 hk_72 v1 v2 v3 v5 v6 v7 v7 Y109
set_option maxRecDepth 100000 in
theorem wX4_goes_36 {X : Cx} {D : va_G} {y : ClassId × ClassId × ClassId} {q : Nat → Nat} (hX : OKX X cX4_goes RX4 (rmk 3) (some .int) D y) : ∀ (n : Nat) (v1 v2 v3 v4 v5 : Int) (Y : St), GF X cX4_goes D (0, 0) (QI X D y (wM y q)) (fX4_goes_l36 n v1 v2 v3 v4 v5 Y) 36 [some (.ref (q 0)), some (.int (iz v1)), some (.int (iz v2)), some (.int (iz v3)), some (.int (iz v4)), some (.int (iz v5)), none, none] [] (wM y q Y) := by
  intro n
  induction n with
  | zero => intro v1 v2 v3 v4 v5 Y; exact g_none
  | succ n hk_36 =>
    intro v1 v2 v3 v4 v5 Y
    unfold fX4_goes_l36
    refine g_iload hX dX4_goes_36 (rfl : 36 + 2 = 38) rfl ?_
    refine g_iload_n hX dX4_goes_38 (rfl : 38 + 1 = 39) rfl ?_
    refine g_icmp_gt (tgt := 167) hX dX4_goes_39 (by decide) (rfl : 39 + 3 = 42) ?_ ?_
    · refine g_drop (lv' := [some (.ref (q 0)), none, some (.int (iz v2)), some (.int (iz v3)), some (.int (iz v4)), some (.int (iz v5)), none, none]) 1 rfl ?_
      refine g_drop (lv' := [some (.ref (q 0)), none, none, some (.int (iz v3)), some (.int (iz v4)), some (.int (iz v5)), none, none]) 2 rfl ?_
      refine g_drop (lv' := [some (.ref (q 0)), none, none, none, some (.int (iz v4)), some (.int (iz v5)), none, none]) 3 rfl ?_
      refine g_drop (lv' := [some (.ref (q 0)), none, none, none, some (.int (iz v4)), none, none, none]) 5 rfl ?_
      exact wX4_goes_167 hX v4 Y
    · refine g_aload_n hX dX4_goes_42 (rfl : 42 + 1 = 43) rfl ?_
      refine ge_M_X4_56_M hX dX4_goes_43 (rfl : 43 + 3 = 46) ?_
      refine g_aload_n hX dX4_goes_46 (rfl : 46 + 1 = 47) rfl ?_
      refine ge_M_X4_13_M hX dX4_goes_47 (rfl : 47 + 3 = 50) ?_
      refine g_iload hX dX4_goes_50 (rfl : 50 + 2 = 52) rfl ?_
      refine al_M_M_1 hX dX4_goes_52 (rfl : 52 + 1 = 53) ?_
      refine al_M_M_29 hX dX4_goes_53 (rfl : 53 + 1 = 54) ?_
      refine g_istore (lv' := fun x111 => [some (.ref (q 0)), some (.int (iz v1)), some (.int (iz v2)), some (.int (iz v3)), some (.int (iz v4)), some (.int (iz v5)), some (.int (iz x111)), none]) hX dX4_goes_54 (rfl : 54 + 2 = 56) rfl (fun _ => rfl) (fun x111 => ?_)
      refine g_iconst hX dX4_goes_56 (rfl : 56 + 1 = 57) ?_
      refine g_istore (lv' := fun x112 => [some (.ref (q 0)), some (.int (iz v1)), some (.int (iz v2)), some (.int (iz v3)), some (.int (iz x112)), some (.int (iz v5)), some (.int (iz x111)), none]) hX dX4_goes_57 (rfl : 57 + 2 = 59) rfl (fun _ => rfl) (fun x112 => ?_)
      refine g_iload_n hX dX4_goes_59 (rfl : 59 + 1 = 60) rfl ?_
      refine g_iload hX dX4_goes_60 (rfl : 60 + 2 = 62) rfl ?_
      refine g_ishr hX dX4_goes_62 (rfl : 62 + 1 = 63) ?_
      refine g_iconst hX dX4_goes_63 (rfl : 63 + 1 = 64) ?_
      refine g_iand hX dX4_goes_64 (rfl : 64 + 1 = 65) ?_
      refine g_if_ne (tgt := 161) hX dX4_goes_65 (by decide) (rfl : 65 + 3 = 68) ?_ ?_
      · refine g_drop (lv' := [some (.ref (q 0)), some (.int (iz v1)), some (.int (iz v2)), some (.int (iz v3)), some (.int (iz x112)), some (.int (iz v5)), none, none]) 6 rfl ?_
        exact wX4_goes_161 hX hk_36 v1 v2 v3 x112 v5 Y
      · refine g_bipush hX dX4_goes_68 (by decide) (rfl : 68 + 2 = 70) ?_
        refine g_istore (lv' := fun x113 => [some (.ref (q 0)), some (.int (iz v1)), some (.int (iz v2)), some (.int (iz v3)), some (.int (iz x112)), some (.int (iz v5)), some (.int (iz x111)), some (.int (iz x113))]) hX dX4_goes_70 (rfl : 70 + 2 = 72) rfl (fun _ => rfl) (fun x113 => ?_)
        exact wX4_goes_72 hX hk_36 FU v1 v2 v3 x112 v5 x111 x113 Y
set_option maxRecDepth 100000 in
theorem wX4_goes_26 {X : Cx} {D : va_G} {y : ClassId × ClassId × ClassId} {q : Nat → Nat} (hX : OKX X cX4_goes RX4 (rmk 3) (some .int) D y) (Y : St) : GF X cX4_goes D (0, 0) (QI X D y (wM y q)) (fX4_goes_j26  Y) 26 [some (.ref (q 0)), none, none, none, none, none, none, none] [] (wM y q Y) := by
  unfold fX4_goes_j26
  refine g_iconst hX dX4_goes_26 (rfl : 26 + 1 = 27) ?_
  exact g_iret hX dX4_goes_27
set_option maxRecDepth 100000 in
theorem kX4_goes (l : Launch) (D : va_G) (y : ClassId × ClassId × ClassId) (q : Nat → Nat) (Y : St) (a0 a1 : Int) : CtI l D y yX4_goes cX4_goes 8 (some .int) (rmk 3) [.ref (q 0), .int (iz a0), .int (iz a1)] (wM y q) Y (fX4_goes Y a0 a1) := by
  refine ctI_of (own := RX4) rfl (by decide) (cat1 rfl) rfl (fun X hl hX => ?_)
  subst hl
  show GF X cX4_goes D (0, 0) (QI X D y (wM y q)) (fX4_goes Y a0 a1) 0 [some (.ref (q 0)), some (.int (iz a0)), some (.int (iz a1)), none, none, none, none, none] [] (wM y q Y)
  unfold fX4_goes
  refine g_iload_n hX dX4_goes_0 (rfl : 0 + 1 = 1) rfl ?_
  refine g_iconst hX dX4_goes_1 (rfl : 1 + 1 = 2) ?_
  refine g_bipush hX dX4_goes_2 (by decide) (rfl : 2 + 2 = 4) ?_
  refine g_callp hX (kX4_in _ _ _ _ _ _) mw_X4_69 (by decide) rfl rfl (Nat.le_of_ble_eq_true rfl) dX4_goes_4 (rfl : 4 + 3 = 7) (fun r1 => ?_)
  refine g_if_eq (tgt := 26) hX dX4_goes_7 (by decide) (rfl : 7 + 3 = 10) ?_ ?_
  · refine g_drop (lv' := [some (.ref (q 0)), none, some (.int (iz a1)), none, none, none, none, none]) 1 rfl ?_
    refine g_drop (lv' := [some (.ref (q 0)), none, none, none, none, none, none, none]) 2 rfl ?_
    exact wX4_goes_26 hX  Y
  · refine g_aload_n hX dX4_goes_10 (rfl : 10 + 1 = 11) rfl ?_
    refine g_iload_n hX dX4_goes_11 (rfl : 11 + 1 = 12) rfl ?_
    refine ci_MM hX (kX4_isAsking _ _ _ (q) _ _) mw_X4_90 (by decide) rfl rfl (Nat.le_of_ble_eq_true rfl) dX4_goes_12 (rfl : 12 + 3 = 15) (fun r3 Y2 => ?_)
    refine g_if_eq (tgt := 26) hX dX4_goes_15 (by decide) (rfl : 15 + 3 = 18) ?_ ?_
    · refine g_drop (lv' := [some (.ref (q 0)), none, some (.int (iz a1)), none, none, none, none, none]) 1 rfl ?_
      refine g_drop (lv' := [some (.ref (q 0)), none, none, none, none, none, none, none]) 2 rfl ?_
      exact wX4_goes_26 hX  Y2
    · refine g_aload_n hX dX4_goes_18 (rfl : 18 + 1 = 19) rfl ?_
      refine g_iload_n hX dX4_goes_19 (rfl : 19 + 1 = 20) rfl ?_
      refine ci_MM hX (kX4_findLeast _ _ _ (q) _ _) mw_X4_229 (by decide) rfl rfl (Nat.le_of_ble_eq_true rfl) dX4_goes_20 (rfl : 20 + 3 = 23) (fun r5 Y4 => ?_)
      refine g_if_ne (tgt := 28) hX dX4_goes_23 (by decide) (rfl : 23 + 3 = 26) ?_ ?_
      · refine g_iconst hX dX4_goes_28 (rfl : 28 + 1 = 29) ?_
        refine g_istore_n (lv' := fun x6 => [some (.ref (q 0)), some (.int (iz a0)), some (.int (iz a1)), some (.int (iz x6)), none, none, none, none]) hX dX4_goes_29 (rfl : 29 + 1 = 30) rfl (fun _ => rfl) (fun x6 => ?_)
        refine g_iconst hX dX4_goes_30 (rfl : 30 + 1 = 31) ?_
        refine g_istore (lv' := fun x7 => [some (.ref (q 0)), some (.int (iz a0)), some (.int (iz a1)), some (.int (iz x6)), some (.int (iz x7)), none, none, none]) hX dX4_goes_31 (rfl : 31 + 2 = 33) rfl (fun _ => rfl) (fun x7 => ?_)
        refine g_iconst hX dX4_goes_33 (rfl : 33 + 1 = 34) ?_
        refine g_istore (lv' := fun x8 => [some (.ref (q 0)), some (.int (iz a0)), some (.int (iz a1)), some (.int (iz x6)), some (.int (iz x7)), some (.int (iz x8)), none, none]) hX dX4_goes_34 (rfl : 34 + 2 = 36) rfl (fun _ => rfl) (fun x8 => ?_)
        exact wX4_goes_36 hX FU a0 a1 x6 x7 x8 Y4
      · refine g_drop (lv' := [some (.ref (q 0)), none, some (.int (iz a1)), none, none, none, none, none]) 1 rfl ?_
        refine g_drop (lv' := [some (.ref (q 0)), none, none, none, none, none, none, none]) 2 rfl ?_
        exact wX4_goes_26 hX  Y4
set_option maxRecDepth 100000 in
theorem wX4_phaseOf_113 {X : Cx} {D : va_G} {y : ClassId × ClassId × ClassId} {q : Nat → Nat} (hX : OKX X cX4_phaseOf RX4 (rmk 0) (some .int) D y) (v3 : Int) (Y : St) : GF X cX4_phaseOf D (0, 0) (QI X D y (wM y q)) (fX4_phaseOf_j113 v3 Y) 113 [some (.ref (q 0)), none, none, some (.int (iz v3)), none, none, none] [] (wM y q Y) := by
  unfold fX4_phaseOf_j113
  refine g_iload_n hX dX4_phaseOf_113 (rfl : 113 + 1 = 114) rfl ?_
  exact g_iret hX dX4_phaseOf_114
set_option maxRecDepth 100000 in
theorem wX4_phaseOf_91 {X : Cx} {D : va_G} {y : ClassId × ClassId × ClassId} {q : Nat → Nat} (hX : OKX X cX4_phaseOf RX4 (rmk 0) (some .int) D y) {k_8 : Int → Int → Int → Int → Int → (St) → Option (Int × (St))} (hk_8 : ∀ (v1 v2 v3 v4 v5 : Int) (Y : St), GF X cX4_phaseOf D (0, 0) (QI X D y (wM y q)) (k_8 v1 v2 v3 v4 v5 Y) 8 [some (.ref (q 0)), some (.int (iz v1)), some (.int (iz v2)), some (.int (iz v3)), some (.int (iz v4)), some (.int (iz v5)), none] [] (wM y q Y)) (v1 v2 v3 v5 s0 s1 : Int) (Y : St) : GF X cX4_phaseOf D (0, 0) (QI X D y (wM y q)) (fX4_phaseOf_j91 k_8 v1 v2 v3 v5 s0 s1 Y) 91 [some (.ref (q 0)), some (.int (iz v1)), some (.int (iz v2)), some (.int (iz v3)), none, some (.int (iz v5)), none] [.int (iz s0), .int (iz s1)] (wM y q Y) := by
  unfold fX4_phaseOf_j91
  refine g_iadd hX dX4_phaseOf_91 (rfl : 91 + 1 = 92) ?_
  refine g_istore (lv' := fun x101 => [some (.ref (q 0)), some (.int (iz v1)), some (.int (iz v2)), some (.int (iz v3)), some (.int (iz x101)), some (.int (iz v5)), none]) hX dX4_phaseOf_92 (rfl : 92 + 2 = 94) rfl (fun _ => rfl) (fun x101 => ?_)
  refine g_aload_n hX dX4_phaseOf_94 (rfl : 94 + 1 = 95) rfl ?_
  refine ge_M_X4_63_M hX dX4_phaseOf_95 (rfl : 95 + 3 = 98) ?_
  refine g_aload_n hX dX4_phaseOf_98 (rfl : 98 + 1 = 99) rfl ?_
  refine ge_M_X4_13_M hX dX4_phaseOf_99 (rfl : 99 + 3 = 102) ?_
  refine g_iload hX dX4_phaseOf_102 (rfl : 102 + 2 = 104) rfl ?_
  refine al_M_M_1 hX dX4_phaseOf_104 (rfl : 104 + 1 = 105) ?_
  refine g_iconst hX dX4_phaseOf_105 (rfl : 105 + 1 = 106) ?_
  refine as_M_M_32 hX dX4_phaseOf_106 (rfl : 106 + 1 = 107) (fun Y102 => ?_)
  refine g_iinc (lv' := fun x103 => [some (.ref (q 0)), some (.int (iz v1)), some (.int (iz v2)), some (.int (iz v3)), some (.int (iz x101)), some (.int (iz x103)), none]) hX dX4_phaseOf_107 (rfl : 107 + 3 = 110) rfl (fun _ => rfl) (fun x103 => ?_)
  refine g_goto (pc' := 8) hX dX4_phaseOf_110 (by decide) ?_
  exact hk_8 v1 v2 v3 x101 x103 Y102
set_option maxRecDepth 100000 in
theorem wX4_phaseOf_69 {X : Cx} {D : va_G} {y : ClassId × ClassId × ClassId} {q : Nat → Nat} (hX : OKX X cX4_phaseOf RX4 (rmk 0) (some .int) D y) {k_8 : Int → Int → Int → Int → Int → (St) → Option (Int × (St))} (hk_8 : ∀ (v1 v2 v3 v4 v5 : Int) (Y : St), GF X cX4_phaseOf D (0, 0) (QI X D y (wM y q)) (k_8 v1 v2 v3 v4 v5 Y) 8 [some (.ref (q 0)), some (.int (iz v1)), some (.int (iz v2)), some (.int (iz v3)), some (.int (iz v4)), some (.int (iz v5)), none] [] (wM y q Y)) (v1 v2 v3 v4 v5 : Int) (Y : St) : GF X cX4_phaseOf D (0, 0) (QI X D y (wM y q)) (fX4_phaseOf_j69 k_8 v1 v2 v3 v4 v5 Y) 69 [some (.ref (q 0)), some (.int (iz v1)), some (.int (iz v2)), some (.int (iz v3)), some (.int (iz v4)), some (.int (iz v5)), none] [] (wM y q Y) := by
  unfold fX4_phaseOf_j69
  refine g_iload hX dX4_phaseOf_69 (rfl : 69 + 2 = 71) rfl ?_
  refine g_aload_n hX dX4_phaseOf_71 (rfl : 71 + 1 = 72) rfl ?_
  refine ge_M_X4_63_M hX dX4_phaseOf_72 (rfl : 72 + 3 = 75) ?_
  refine g_aload_n hX dX4_phaseOf_75 (rfl : 75 + 1 = 76) rfl ?_
  refine ge_M_X4_13_M hX dX4_phaseOf_76 (rfl : 76 + 3 = 79) ?_
  refine g_iload hX dX4_phaseOf_79 (rfl : 79 + 2 = 81) rfl ?_
  refine al_M_M_1 hX dX4_phaseOf_81 (rfl : 81 + 1 = 82) ?_
  refine al_M_M_32 hX dX4_phaseOf_82 (rfl : 82 + 1 = 83) ?_
  refine g_if_eq (tgt := 90) hX dX4_phaseOf_83 (by decide) (rfl : 83 + 3 = 86) ?_ ?_
  · refine g_iconst hX dX4_phaseOf_90 (rfl : 90 + 1 = 91) ?_
    refine g_drop (lv' := [some (.ref (q 0)), some (.int (iz v1)), some (.int (iz v2)), some (.int (iz v3)), none, some (.int (iz v5)), none]) 4 rfl ?_
    exact wX4_phaseOf_91 hX hk_8 v1 v2 v3 v5 1 v4 Y
  · refine g_iconst hX dX4_phaseOf_86 (rfl : 86 + 1 = 87) ?_
    refine g_goto (pc' := 91) hX dX4_phaseOf_87 (by decide) ?_
    refine g_drop (lv' := [some (.ref (q 0)), some (.int (iz v1)), some (.int (iz v2)), some (.int (iz v3)), none, some (.int (iz v5)), none]) 4 rfl ?_
    exact wX4_phaseOf_91 hX hk_8 v1 v2 v3 v5 0 v4 Y
set_option maxRecDepth 100000 in
theorem wX4_phaseOf_48 {X : Cx} {D : va_G} {y : ClassId × ClassId × ClassId} {q : Nat → Nat} (hX : OKX X cX4_phaseOf RX4 (rmk 0) (some .int) D y) {k_8 : Int → Int → Int → Int → Int → (St) → Option (Int × (St))} (hk_8 : ∀ (v1 v2 v3 v4 v5 : Int) (Y : St), GF X cX4_phaseOf D (0, 0) (QI X D y (wM y q)) (k_8 v1 v2 v3 v4 v5 Y) 8 [some (.ref (q 0)), some (.int (iz v1)), some (.int (iz v2)), some (.int (iz v3)), some (.int (iz v4)), some (.int (iz v5)), none] [] (wM y q Y)) : ∀ (n : Nat) (v1 v2 v3 v4 v5 v6 : Int) (Y : St), GF X cX4_phaseOf D (0, 0) (QI X D y (wM y q)) (fX4_phaseOf_l48 k_8 n v1 v2 v3 v4 v5 v6 Y) 48 [some (.ref (q 0)), some (.int (iz v1)), some (.int (iz v2)), some (.int (iz v3)), some (.int (iz v4)), some (.int (iz v5)), some (.int (iz v6))] [] (wM y q Y) := by
  intro n
  induction n with
  | zero => intro v1 v2 v3 v4 v5 v6 Y; exact g_none
  | succ n hk_48 =>
    intro v1 v2 v3 v4 v5 v6 Y
    unfold fX4_phaseOf_l48
    refine g_iload hX dX4_phaseOf_48 (rfl : 48 + 2 = 50) rfl ?_
    refine g_bipush hX dX4_phaseOf_50 (by decide) (rfl : 50 + 2 = 52) ?_
    refine g_icmp_ge (tgt := 69) hX dX4_phaseOf_52 (by decide) (rfl : 52 + 3 = 55) ?_ ?_
    · refine g_drop (lv' := [some (.ref (q 0)), some (.int (iz v1)), some (.int (iz v2)), some (.int (iz v3)), some (.int (iz v4)), some (.int (iz v5)), none]) 6 rfl ?_
      exact wX4_phaseOf_69 hX hk_8 v1 v2 v3 v4 v5 Y
    · refine g_aload_n hX dX4_phaseOf_55 (rfl : 55 + 1 = 56) rfl ?_
      refine ge_M_X4_63_M hX dX4_phaseOf_56 (rfl : 56 + 3 = 59) ?_
      refine g_iload hX dX4_phaseOf_59 (rfl : 59 + 2 = 61) rfl ?_
      refine g_iconst hX dX4_phaseOf_61 (rfl : 61 + 1 = 62) ?_
      refine as_M_M_32 hX dX4_phaseOf_62 (rfl : 62 + 1 = 63) (fun Y104 => ?_)
      refine g_iinc (lv' := fun x105 => [some (.ref (q 0)), some (.int (iz v1)), some (.int (iz v2)), some (.int (iz v3)), some (.int (iz v4)), some (.int (iz v5)), some (.int (iz x105))]) hX dX4_phaseOf_63 (rfl : 63 + 3 = 66) rfl (fun _ => rfl) (fun x105 => ?_)
      refine g_goto (pc' := 48) hX dX4_phaseOf_66 (by decide) ?_
      exact hk_48 v1 v2 v3 v4 v5 x105 Y104
set_option maxRecDepth 100000 in
theorem wX4_phaseOf_39 {X : Cx} {D : va_G} {y : ClassId × ClassId × ClassId} {q : Nat → Nat} (hX : OKX X cX4_phaseOf RX4 (rmk 0) (some .int) D y) {k_8 : Int → Int → Int → Int → Int → (St) → Option (Int × (St))} (hk_8 : ∀ (v1 v2 v3 v4 v5 : Int) (Y : St), GF X cX4_phaseOf D (0, 0) (QI X D y (wM y q)) (k_8 v1 v2 v3 v4 v5 Y) 8 [some (.ref (q 0)), some (.int (iz v1)), some (.int (iz v2)), some (.int (iz v3)), some (.int (iz v4)), some (.int (iz v5)), none] [] (wM y q Y)) (v1 v2 v3 v5 : Int) (Y : St) : GF X cX4_phaseOf D (0, 0) (QI X D y (wM y q)) (fX4_phaseOf_j39 k_8 v1 v2 v3 v5 Y) 39 [some (.ref (q 0)), some (.int (iz v1)), some (.int (iz v2)), some (.int (iz v3)), none, some (.int (iz v5)), none] [] (wM y q Y) := by
  unfold fX4_phaseOf_j39
  refine g_iinc (lv' := fun x106 => [some (.ref (q 0)), some (.int (iz v1)), some (.int (iz v2)), some (.int (iz x106)), none, some (.int (iz v5)), none]) hX dX4_phaseOf_39 (rfl : 39 + 3 = 42) rfl (fun _ => rfl) (fun x106 => ?_)
  refine g_iconst hX dX4_phaseOf_42 (rfl : 42 + 1 = 43) ?_
  refine g_istore (lv' := fun x107 => [some (.ref (q 0)), some (.int (iz v1)), some (.int (iz v2)), some (.int (iz x106)), some (.int (iz x107)), some (.int (iz v5)), none]) hX dX4_phaseOf_43 (rfl : 43 + 2 = 45) rfl (fun _ => rfl) (fun x107 => ?_)
  refine g_iconst hX dX4_phaseOf_45 (rfl : 45 + 1 = 46) ?_
  refine g_istore (lv' := fun x108 => [some (.ref (q 0)), some (.int (iz v1)), some (.int (iz v2)), some (.int (iz x106)), some (.int (iz x107)), some (.int (iz v5)), some (.int (iz x108))]) hX dX4_phaseOf_46 (rfl : 46 + 2 = 48) rfl (fun _ => rfl) (fun x108 => ?_)
  exact wX4_phaseOf_48 hX hk_8 FU v1 v2 x106 x107 v5 x108 Y
set_option maxRecDepth 100000 in
theorem wX4_phaseOf_8 {X : Cx} {D : va_G} {y : ClassId × ClassId × ClassId} {q : Nat → Nat} (hX : OKX X cX4_phaseOf RX4 (rmk 0) (some .int) D y) : ∀ (n : Nat) (v1 v2 v3 v4 v5 : Int) (Y : St), GF X cX4_phaseOf D (0, 0) (QI X D y (wM y q)) (fX4_phaseOf_l8 n v1 v2 v3 v4 v5 Y) 8 [some (.ref (q 0)), some (.int (iz v1)), some (.int (iz v2)), some (.int (iz v3)), some (.int (iz v4)), some (.int (iz v5)), none] [] (wM y q Y) := by
  intro n
  induction n with
  | zero => intro v1 v2 v3 v4 v5 Y; exact g_none
  | succ n hk_8 =>
    intro v1 v2 v3 v4 v5 Y
    unfold fX4_phaseOf_l8
    refine g_iload hX dX4_phaseOf_8 (rfl : 8 + 2 = 10) rfl ?_
    refine g_iload_n hX dX4_phaseOf_10 (rfl : 10 + 1 = 11) rfl ?_
    refine g_icmp_gt (tgt := 113) hX dX4_phaseOf_11 (by decide) (rfl : 11 + 3 = 14) ?_ ?_
    · refine g_drop (lv' := [some (.ref (q 0)), none, some (.int (iz v2)), some (.int (iz v3)), some (.int (iz v4)), some (.int (iz v5)), none]) 1 rfl ?_
      refine g_drop (lv' := [some (.ref (q 0)), none, none, some (.int (iz v3)), some (.int (iz v4)), some (.int (iz v5)), none]) 2 rfl ?_
      refine g_drop (lv' := [some (.ref (q 0)), none, none, some (.int (iz v3)), none, some (.int (iz v5)), none]) 4 rfl ?_
      refine g_drop (lv' := [some (.ref (q 0)), none, none, some (.int (iz v3)), none, none, none]) 5 rfl ?_
      exact wX4_phaseOf_113 hX v3 Y
    · refine g_iload_n hX dX4_phaseOf_14 (rfl : 14 + 1 = 15) rfl ?_
      refine g_if_lt (tgt := 39) hX dX4_phaseOf_15 (by decide) (rfl : 15 + 3 = 18) ?_ ?_
      · refine g_drop (lv' := [some (.ref (q 0)), some (.int (iz v1)), some (.int (iz v2)), some (.int (iz v3)), none, some (.int (iz v5)), none]) 4 rfl ?_
        exact wX4_phaseOf_39 hX hk_8 v1 v2 v3 v5 Y
      · refine g_aload_n hX dX4_phaseOf_18 (rfl : 18 + 1 = 19) rfl ?_
        refine ge_M_X4_63_M hX dX4_phaseOf_19 (rfl : 19 + 3 = 22) ?_
        refine g_aload_n hX dX4_phaseOf_22 (rfl : 22 + 1 = 23) rfl ?_
        refine ge_M_X4_13_M hX dX4_phaseOf_23 (rfl : 23 + 3 = 26) ?_
        refine g_iload hX dX4_phaseOf_26 (rfl : 26 + 2 = 28) rfl ?_
        refine al_M_M_1 hX dX4_phaseOf_28 (rfl : 28 + 1 = 29) ?_
        refine al_M_M_32 hX dX4_phaseOf_29 (rfl : 29 + 1 = 30) ?_
        refine g_if_ne (tgt := 69) hX dX4_phaseOf_30 (by decide) (rfl : 30 + 3 = 33) ?_ ?_
        · exact wX4_phaseOf_69 hX hk_8 v1 v2 v3 v4 v5 Y
        · refine g_iload hX dX4_phaseOf_33 (rfl : 33 + 2 = 35) rfl ?_
          refine g_iload_n hX dX4_phaseOf_35 (rfl : 35 + 1 = 36) rfl ?_
          refine g_icmp_ne (tgt := 69) hX dX4_phaseOf_36 (by decide) (rfl : 36 + 3 = 39) ?_ ?_
          · exact wX4_phaseOf_69 hX hk_8 v1 v2 v3 v4 v5 Y
          · refine g_drop (lv' := [some (.ref (q 0)), some (.int (iz v1)), some (.int (iz v2)), some (.int (iz v3)), none, some (.int (iz v5)), none]) 4 rfl ?_
            exact wX4_phaseOf_39 hX hk_8 v1 v2 v3 v5 Y
set_option maxRecDepth 100000 in
theorem kX4_phaseOf (l : Launch) (D : va_G) (y : ClassId × ClassId × ClassId) (q : Nat → Nat) (Y : St) (a0 a1 : Int) : CtI l D y yX4_phaseOf cX4_phaseOf 7 (some .int) (rmk 0) [.ref (q 0), .int (iz a0), .int (iz a1)] (wM y q) Y (fX4_phaseOf Y a0 a1) := by
  refine ctI_of (own := RX4) rfl (by decide) (cat1 rfl) rfl (fun X hl hX => ?_)
  subst hl
  show GF X cX4_phaseOf D (0, 0) (QI X D y (wM y q)) (fX4_phaseOf Y a0 a1) 0 [some (.ref (q 0)), some (.int (iz a0)), some (.int (iz a1)), none, none, none, none] [] (wM y q Y)
  unfold fX4_phaseOf
  refine g_iconst hX dX4_phaseOf_0 (rfl : 0 + 1 = 1) ?_
  refine g_istore_n (lv' := fun x1 => [some (.ref (q 0)), some (.int (iz a0)), some (.int (iz a1)), some (.int (iz x1)), none, none, none]) hX dX4_phaseOf_1 (rfl : 1 + 1 = 2) rfl (fun _ => rfl) (fun x1 => ?_)
  refine g_iload_n hX dX4_phaseOf_2 (rfl : 2 + 1 = 3) rfl ?_
  refine g_istore (lv' := fun x2 => [some (.ref (q 0)), some (.int (iz a0)), some (.int (iz a1)), some (.int (iz x1)), some (.int (iz x2)), none, none]) hX dX4_phaseOf_3 (rfl : 3 + 2 = 5) rfl (fun _ => rfl) (fun x2 => ?_)
  refine g_iconst hX dX4_phaseOf_5 (rfl : 5 + 1 = 6) ?_
  refine g_istore (lv' := fun x3 => [some (.ref (q 0)), some (.int (iz a0)), some (.int (iz a1)), some (.int (iz x1)), some (.int (iz x2)), some (.int (iz x3)), none]) hX dX4_phaseOf_6 (rfl : 6 + 2 = 8) rfl (fun _ => rfl) (fun x3 => ?_)
  exact wX4_phaseOf_8 hX FU a0 a1 x1 x2 x3 Y
set_option maxRecDepth 100000 in
theorem wX4_phases_27 {X : Cx} {D : va_G} {y : ClassId × ClassId × ClassId} {q : Nat → Nat} (hX : OKX X cX4_phases RX4 (rmk 1) (some .int) D y) (s0 : Int) (Y : St) : GF X cX4_phases D (0, 0) (QI X D y (wM y q)) (fX4_phases_j27 s0 Y) 27 [some (.ref (q 0)), none] [.int (iz s0)] (wM y q Y) := by
  unfold fX4_phases_j27
  exact g_iret hX dX4_phases_27
set_option maxRecDepth 100000 in
theorem kX4_phases (l : Launch) (D : va_G) (y : ClassId × ClassId × ClassId) (q : Nat → Nat) (Y : St) (a0 : Int) : CtI l D y yX4_phases cX4_phases 2 (some .int) (rmk 1) [.ref (q 0), .int (iz a0)] (wM y q) Y (fX4_phases Y a0) := by
  refine ctI_of (own := RX4) rfl (by decide) (cat1 rfl) rfl (fun X hl hX => ?_)
  subst hl
  show GF X cX4_phases D (0, 0) (QI X D y (wM y q)) (fX4_phases Y a0) 0 [some (.ref (q 0)), some (.int (iz a0))] [] (wM y q Y)
  unfold fX4_phases
  refine g_iload_n hX dX4_phases_0 (rfl : 0 + 1 = 1) rfl ?_
  refine g_iconst hX dX4_phases_1 (rfl : 1 + 1 = 2) ?_
  refine g_bipush hX dX4_phases_2 (by decide) (rfl : 2 + 2 = 4) ?_
  refine g_callp hX (kX4_in _ _ _ _ _ _) mw_X4_69 (by decide) rfl rfl (Nat.le_of_ble_eq_true rfl) dX4_phases_4 (rfl : 4 + 3 = 7) (fun r1 => ?_)
  refine g_if_eq (tgt := 26) hX dX4_phases_7 (by decide) (rfl : 7 + 3 = 10) ?_ ?_
  · refine g_iconst hX dX4_phases_26 (rfl : 26 + 1 = 27) ?_
    refine g_drop (lv' := [some (.ref (q 0)), none]) 1 rfl ?_
    exact wX4_phases_27 hX ((-1)) Y
  · refine g_aload_n hX dX4_phases_10 (rfl : 10 + 1 = 11) rfl ?_
    refine g_iload_n hX dX4_phases_11 (rfl : 11 + 1 = 12) rfl ?_
    refine g_aload_n hX dX4_phases_12 (rfl : 12 + 1 = 13) rfl ?_
    refine ge_M_X4_73_M hX dX4_phases_13 (rfl : 13 + 3 = 16) ?_
    refine g_iconst hX dX4_phases_16 (rfl : 16 + 1 = 17) ?_
    refine g_isub hX dX4_phases_17 (rfl : 17 + 1 = 18) ?_
    refine ci_MM hX (kX4_phaseOf _ _ _ (q) _ _ _) mw_X4_235 (by decide) rfl rfl (Nat.le_of_ble_eq_true rfl) dX4_phases_18 (rfl : 18 + 3 = 21) (fun r3 Y2 => ?_)
    refine g_iconst hX dX4_phases_21 (rfl : 21 + 1 = 22) ?_
    refine g_iadd hX dX4_phases_22 (rfl : 22 + 1 = 23) ?_
    refine g_goto (pc' := 27) hX dX4_phases_23 (by decide) ?_
    refine g_drop (lv' := [some (.ref (q 0)), none]) 1 rfl ?_
    exact wX4_phases_27 hX ((r3 + 1)) Y2
set_option maxRecDepth 100000 in
theorem wX4_phase_28 {X : Cx} {D : va_G} {y : ClassId × ClassId × ClassId} {q : Nat → Nat} (hX : OKX X cX4_phase RX4 (rmk 2) (some .int) D y) (s0 : Int) (Y : St) : GF X cX4_phase D (0, 0) (QI X D y (wM y q)) (fX4_phase_j28 s0 Y) 28 [some (.ref (q 0)), none, none] [.int (iz s0)] (wM y q Y) := by
  unfold fX4_phase_j28
  exact g_iret hX dX4_phase_28
set_option maxRecDepth 100000 in
theorem wX4_phase_27 {X : Cx} {D : va_G} {y : ClassId × ClassId × ClassId} {q : Nat → Nat} (hX : OKX X cX4_phase RX4 (rmk 2) (some .int) D y) (Y : St) : GF X cX4_phase D (0, 0) (QI X D y (wM y q)) (fX4_phase_j27  Y) 27 [some (.ref (q 0)), none, none] [] (wM y q Y) := by
  unfold fX4_phase_j27
  refine g_iconst hX dX4_phase_27 (rfl : 27 + 1 = 28) ?_
  exact wX4_phase_28 hX ((-1)) Y
set_option maxRecDepth 100000 in
theorem kX4_phase (l : Launch) (D : va_G) (y : ClassId × ClassId × ClassId) (q : Nat → Nat) (Y : St) (a0 a1 : Int) : CtI l D y yX4_phase cX4_phase 3 (some .int) (rmk 2) [.ref (q 0), .int (iz a0), .int (iz a1)] (wM y q) Y (fX4_phase Y a0 a1) := by
  refine ctI_of (own := RX4) rfl (by decide) (cat1 rfl) rfl (fun X hl hX => ?_)
  subst hl
  show GF X cX4_phase D (0, 0) (QI X D y (wM y q)) (fX4_phase Y a0 a1) 0 [some (.ref (q 0)), some (.int (iz a0)), some (.int (iz a1))] [] (wM y q Y)
  unfold fX4_phase
  refine g_iload_n hX dX4_phase_0 (rfl : 0 + 1 = 1) rfl ?_
  refine g_iconst hX dX4_phase_1 (rfl : 1 + 1 = 2) ?_
  refine g_bipush hX dX4_phase_2 (by decide) (rfl : 2 + 2 = 4) ?_
  refine g_callp hX (kX4_in _ _ _ _ _ _) mw_X4_69 (by decide) rfl rfl (Nat.le_of_ble_eq_true rfl) dX4_phase_4 (rfl : 4 + 3 = 7) (fun r1 => ?_)
  refine g_if_eq (tgt := 27) hX dX4_phase_7 (by decide) (rfl : 7 + 3 = 10) ?_ ?_
  · refine g_drop (lv' := [some (.ref (q 0)), none, some (.int (iz a1))]) 1 rfl ?_
    refine g_drop (lv' := [some (.ref (q 0)), none, none]) 2 rfl ?_
    exact wX4_phase_27 hX  Y
  · refine g_aload_n hX dX4_phase_10 (rfl : 10 + 1 = 11) rfl ?_
    refine g_iload_n hX dX4_phase_11 (rfl : 11 + 1 = 12) rfl ?_
    refine ci_MM hX (kX4_isAsking _ _ _ (q) _ _) mw_X4_90 (by decide) rfl rfl (Nat.le_of_ble_eq_true rfl) dX4_phase_12 (rfl : 12 + 3 = 15) (fun r3 Y2 => ?_)
    refine g_if_eq (tgt := 27) hX dX4_phase_15 (by decide) (rfl : 15 + 3 = 18) ?_ ?_
    · refine g_drop (lv' := [some (.ref (q 0)), none, some (.int (iz a1))]) 1 rfl ?_
      refine g_drop (lv' := [some (.ref (q 0)), none, none]) 2 rfl ?_
      exact wX4_phase_27 hX  Y2
    · refine g_aload_n hX dX4_phase_18 (rfl : 18 + 1 = 19) rfl ?_
      refine g_iload_n hX dX4_phase_19 (rfl : 19 + 1 = 20) rfl ?_
      refine g_iload_n hX dX4_phase_20 (rfl : 20 + 1 = 21) rfl ?_
      refine ci_MM hX (kX4_phaseOf _ _ _ (q) _ _ _) mw_X4_235 (by decide) rfl rfl (Nat.le_of_ble_eq_true rfl) dX4_phase_21 (rfl : 21 + 3 = 24) (fun r5 Y4 => ?_)
      refine g_goto (pc' := 28) hX dX4_phase_24 (by decide) ?_
      refine g_drop (lv' := [some (.ref (q 0)), none, some (.int (iz a1))]) 1 rfl ?_
      refine g_drop (lv' := [some (.ref (q 0)), none, none]) 2 rfl ?_
      exact wX4_phase_28 hX r5 Y4
set_option maxRecDepth 100000 in
theorem wX4_distanceOf_117 {X : Cx} {D : va_G} {y : ClassId × ClassId × ClassId} {q : Nat → Nat} (hX : OKX X cX4_distanceOf RX4 (rmk 0) (some .int) D y) (v3 : Int) (Y : St) : GF X cX4_distanceOf D (0, 0) (QI X D y (wM y q)) (fX4_distanceOf_j117 v3 Y) 117 [some (.ref (q 0)), none, none, some (.int (iz v3)), none, none, none] [] (wM y q Y) := by
  unfold fX4_distanceOf_j117
  refine g_iload_n hX dX4_distanceOf_117 (rfl : 117 + 1 = 118) rfl ?_
  exact g_iret hX dX4_distanceOf_118
set_option maxRecDepth 100000 in
theorem wX4_distanceOf_109 {X : Cx} {D : va_G} {y : ClassId × ClassId × ClassId} {q : Nat → Nat} (hX : OKX X cX4_distanceOf RX4 (rmk 0) (some .int) D y) {k_42 : Int → Int → Int → Int → (St) → Option (Int × (St))} (hk_42 : ∀ (v1 v2 v3 v4 : Int) (Y : St), GF X cX4_distanceOf D (0, 0) (QI X D y (wM y q)) (k_42 v1 v2 v3 v4 Y) 42 [some (.ref (q 0)), some (.int (iz v1)), some (.int (iz v2)), some (.int (iz v3)), some (.int (iz v4)), none, none] [] (wM y q Y)) (v1 v2 v4 s0 s1 : Int) (Y : St) : GF X cX4_distanceOf D (0, 0) (QI X D y (wM y q)) (fX4_distanceOf_j109 k_42 v1 v2 v4 s0 s1 Y) 109 [some (.ref (q 0)), some (.int (iz v1)), some (.int (iz v2)), none, some (.int (iz v4)), none, none] [.int (iz s0), .int (iz s1)] (wM y q Y) := by
  unfold fX4_distanceOf_j109
  refine g_iadd hX dX4_distanceOf_109 (rfl : 109 + 1 = 110) ?_
  refine g_istore_n (lv' := fun x101 => [some (.ref (q 0)), some (.int (iz v1)), some (.int (iz v2)), some (.int (iz x101)), some (.int (iz v4)), none, none]) hX dX4_distanceOf_110 (rfl : 110 + 1 = 111) rfl (fun _ => rfl) (fun x101 => ?_)
  refine g_iinc (lv' := fun x102 => [some (.ref (q 0)), some (.int (iz v1)), some (.int (iz v2)), some (.int (iz x101)), some (.int (iz x102)), none, none]) hX dX4_distanceOf_111 (rfl : 111 + 3 = 114) rfl (fun _ => rfl) (fun x102 => ?_)
  refine g_goto (pc' := 42) hX dX4_distanceOf_114 (by decide) ?_
  exact hk_42 v1 v2 x101 x102 Y
set_option maxRecDepth 100000 in
theorem wX4_distanceOf_98 {X : Cx} {D : va_G} {y : ClassId × ClassId × ClassId} {q : Nat → Nat} (hX : OKX X cX4_distanceOf RX4 (rmk 0) (some .int) D y) {k_42 : Int → Int → Int → Int → (St) → Option (Int × (St))} (hk_42 : ∀ (v1 v2 v3 v4 : Int) (Y : St), GF X cX4_distanceOf D (0, 0) (QI X D y (wM y q)) (k_42 v1 v2 v3 v4 Y) 42 [some (.ref (q 0)), some (.int (iz v1)), some (.int (iz v2)), some (.int (iz v3)), some (.int (iz v4)), none, none] [] (wM y q Y)) (v1 v2 v3 v4 v5 : Int) (Y : St) : GF X cX4_distanceOf D (0, 0) (QI X D y (wM y q)) (fX4_distanceOf_j98 k_42 v1 v2 v3 v4 v5 Y) 98 [some (.ref (q 0)), some (.int (iz v1)), some (.int (iz v2)), some (.int (iz v3)), some (.int (iz v4)), some (.int (iz v5)), none] [] (wM y q Y) := by
  unfold fX4_distanceOf_j98
  refine g_iload_n hX dX4_distanceOf_98 (rfl : 98 + 1 = 99) rfl ?_
  refine g_iload hX dX4_distanceOf_99 (rfl : 99 + 2 = 101) rfl ?_
  refine g_if_eq (tgt := 108) hX dX4_distanceOf_101 (by decide) (rfl : 101 + 3 = 104) ?_ ?_
  · refine g_iconst hX dX4_distanceOf_108 (rfl : 108 + 1 = 109) ?_
    refine g_drop (lv' := [some (.ref (q 0)), some (.int (iz v1)), some (.int (iz v2)), none, some (.int (iz v4)), some (.int (iz v5)), none]) 3 rfl ?_
    refine g_drop (lv' := [some (.ref (q 0)), some (.int (iz v1)), some (.int (iz v2)), none, some (.int (iz v4)), none, none]) 5 rfl ?_
    exact wX4_distanceOf_109 hX hk_42 v1 v2 v4 0 v3 Y
  · refine g_iconst hX dX4_distanceOf_104 (rfl : 104 + 1 = 105) ?_
    refine g_goto (pc' := 109) hX dX4_distanceOf_105 (by decide) ?_
    refine g_drop (lv' := [some (.ref (q 0)), some (.int (iz v1)), some (.int (iz v2)), none, some (.int (iz v4)), some (.int (iz v5)), none]) 3 rfl ?_
    refine g_drop (lv' := [some (.ref (q 0)), some (.int (iz v1)), some (.int (iz v2)), none, some (.int (iz v4)), none, none]) 5 rfl ?_
    exact wX4_distanceOf_109 hX hk_42 v1 v2 v4 1 v3 Y
set_option maxRecDepth 100000 in
theorem wX4_distanceOf_90 {X : Cx} {D : va_G} {y : ClassId × ClassId × ClassId} {q : Nat → Nat} (hX : OKX X cX4_distanceOf RX4 (rmk 0) (some .int) D y) {k_42 : Int → Int → Int → Int → (St) → Option (Int × (St))} {k_56 : Int → Int → Int → Int → Int → Int → (St) → Option (Int × (St))} (hk_42 : ∀ (v1 v2 v3 v4 : Int) (Y : St), GF X cX4_distanceOf D (0, 0) (QI X D y (wM y q)) (k_42 v1 v2 v3 v4 Y) 42 [some (.ref (q 0)), some (.int (iz v1)), some (.int (iz v2)), some (.int (iz v3)), some (.int (iz v4)), none, none] [] (wM y q Y)) (hk_56 : ∀ (v1 v2 v3 v4 v5 v6 : Int) (Y : St), GF X cX4_distanceOf D (0, 0) (QI X D y (wM y q)) (k_56 v1 v2 v3 v4 v5 v6 Y) 56 [some (.ref (q 0)), some (.int (iz v1)), some (.int (iz v2)), some (.int (iz v3)), some (.int (iz v4)), some (.int (iz v5)), some (.int (iz v6))] [] (wM y q Y)) (v1 v2 v3 v4 v6 s0 : Int) (Y : St) : GF X cX4_distanceOf D (0, 0) (QI X D y (wM y q)) (fX4_distanceOf_j90 k_42 k_56 v1 v2 v3 v4 v6 s0 Y) 90 [some (.ref (q 0)), some (.int (iz v1)), some (.int (iz v2)), some (.int (iz v3)), some (.int (iz v4)), none, some (.int (iz v6))] [.int (iz s0)] (wM y q Y) := by
  unfold fX4_distanceOf_j90
  refine g_istore (lv' := fun x103 => [some (.ref (q 0)), some (.int (iz v1)), some (.int (iz v2)), some (.int (iz v3)), some (.int (iz v4)), some (.int (iz x103)), some (.int (iz v6))]) hX dX4_distanceOf_90 (rfl : 90 + 2 = 92) rfl (fun _ => rfl) (fun x103 => ?_)
  refine g_iinc (lv' := fun x104 => [some (.ref (q 0)), some (.int (iz v1)), some (.int (iz v2)), some (.int (iz v3)), some (.int (iz v4)), some (.int (iz x103)), some (.int (iz x104))]) hX dX4_distanceOf_92 (rfl : 92 + 3 = 95) rfl (fun _ => rfl) (fun x104 => ?_)
  refine g_goto (pc' := 56) hX dX4_distanceOf_95 (by decide) ?_
  exact hk_56 v1 v2 v3 v4 x103 x104 Y
set_option maxRecDepth 100000 in
theorem wX4_distanceOf_89 {X : Cx} {D : va_G} {y : ClassId × ClassId × ClassId} {q : Nat → Nat} (hX : OKX X cX4_distanceOf RX4 (rmk 0) (some .int) D y) {k_42 : Int → Int → Int → Int → (St) → Option (Int × (St))} {k_56 : Int → Int → Int → Int → Int → Int → (St) → Option (Int × (St))} (hk_42 : ∀ (v1 v2 v3 v4 : Int) (Y : St), GF X cX4_distanceOf D (0, 0) (QI X D y (wM y q)) (k_42 v1 v2 v3 v4 Y) 42 [some (.ref (q 0)), some (.int (iz v1)), some (.int (iz v2)), some (.int (iz v3)), some (.int (iz v4)), none, none] [] (wM y q Y)) (hk_56 : ∀ (v1 v2 v3 v4 v5 v6 : Int) (Y : St), GF X cX4_distanceOf D (0, 0) (QI X D y (wM y q)) (k_56 v1 v2 v3 v4 v5 v6 Y) 56 [some (.ref (q 0)), some (.int (iz v1)), some (.int (iz v2)), some (.int (iz v3)), some (.int (iz v4)), some (.int (iz v5)), some (.int (iz v6))] [] (wM y q Y)) (v1 v2 v3 v4 v6 : Int) (Y : St) : GF X cX4_distanceOf D (0, 0) (QI X D y (wM y q)) (fX4_distanceOf_j89 k_42 k_56 v1 v2 v3 v4 v6 Y) 89 [some (.ref (q 0)), some (.int (iz v1)), some (.int (iz v2)), some (.int (iz v3)), some (.int (iz v4)), none, some (.int (iz v6))] [] (wM y q Y) := by
  unfold fX4_distanceOf_j89
  refine g_iconst hX dX4_distanceOf_89 (rfl : 89 + 1 = 90) ?_
  exact wX4_distanceOf_90 hX hk_42 hk_56 v1 v2 v3 v4 v6 0 Y
set_option maxRecDepth 100000 in
theorem wX4_distanceOf_56 {X : Cx} {D : va_G} {y : ClassId × ClassId × ClassId} {q : Nat → Nat} (hX : OKX X cX4_distanceOf RX4 (rmk 0) (some .int) D y) {k_42 : Int → Int → Int → Int → (St) → Option (Int × (St))} (hk_42 : ∀ (v1 v2 v3 v4 : Int) (Y : St), GF X cX4_distanceOf D (0, 0) (QI X D y (wM y q)) (k_42 v1 v2 v3 v4 Y) 42 [some (.ref (q 0)), some (.int (iz v1)), some (.int (iz v2)), some (.int (iz v3)), some (.int (iz v4)), none, none] [] (wM y q Y)) : ∀ (n : Nat) (v1 v2 v3 v4 v5 v6 : Int) (Y : St), GF X cX4_distanceOf D (0, 0) (QI X D y (wM y q)) (fX4_distanceOf_l56 k_42 n v1 v2 v3 v4 v5 v6 Y) 56 [some (.ref (q 0)), some (.int (iz v1)), some (.int (iz v2)), some (.int (iz v3)), some (.int (iz v4)), some (.int (iz v5)), some (.int (iz v6))] [] (wM y q Y) := by
  intro n
  induction n with
  | zero => intro v1 v2 v3 v4 v5 v6 Y; exact g_none
  | succ n hk_56 =>
    intro v1 v2 v3 v4 v5 v6 Y
    unfold fX4_distanceOf_l56
    refine g_iload hX dX4_distanceOf_56 (rfl : 56 + 2 = 58) rfl ?_
    refine g_iload hX dX4_distanceOf_58 (rfl : 58 + 2 = 60) rfl ?_
    refine g_icmp_ge (tgt := 98) hX dX4_distanceOf_60 (by decide) (rfl : 60 + 3 = 63) ?_ ?_
    · refine g_drop (lv' := [some (.ref (q 0)), some (.int (iz v1)), some (.int (iz v2)), some (.int (iz v3)), some (.int (iz v4)), some (.int (iz v5)), none]) 6 rfl ?_
      exact wX4_distanceOf_98 hX hk_42 v1 v2 v3 v4 v5 Y
    · refine g_iload hX dX4_distanceOf_63 (rfl : 63 + 2 = 65) rfl ?_
      refine g_if_eq (tgt := 89) hX dX4_distanceOf_65 (by decide) (rfl : 65 + 3 = 68) ?_ ?_
      · refine g_drop (lv' := [some (.ref (q 0)), some (.int (iz v1)), some (.int (iz v2)), some (.int (iz v3)), some (.int (iz v4)), none, some (.int (iz v6))]) 5 rfl ?_
        exact wX4_distanceOf_89 hX hk_42 hk_56 v1 v2 v3 v4 v6 Y
      · refine g_aload_n hX dX4_distanceOf_68 (rfl : 68 + 1 = 69) rfl ?_
        refine ge_M_X4_13_M hX dX4_distanceOf_69 (rfl : 69 + 3 = 72) ?_
        refine g_iload hX dX4_distanceOf_72 (rfl : 72 + 2 = 74) rfl ?_
        refine al_M_M_1 hX dX4_distanceOf_74 (rfl : 74 + 1 = 75) ?_
        refine g_aload_n hX dX4_distanceOf_75 (rfl : 75 + 1 = 76) rfl ?_
        refine ge_M_X4_13_M hX dX4_distanceOf_76 (rfl : 76 + 3 = 79) ?_
        refine g_iload hX dX4_distanceOf_79 (rfl : 79 + 2 = 81) rfl ?_
        refine al_M_M_1 hX dX4_distanceOf_81 (rfl : 81 + 1 = 82) ?_
        refine g_icmp_eq (tgt := 89) hX dX4_distanceOf_82 (by decide) (rfl : 82 + 3 = 85) ?_ ?_
        · refine g_drop (lv' := [some (.ref (q 0)), some (.int (iz v1)), some (.int (iz v2)), some (.int (iz v3)), some (.int (iz v4)), none, some (.int (iz v6))]) 5 rfl ?_
          exact wX4_distanceOf_89 hX hk_42 hk_56 v1 v2 v3 v4 v6 Y
        · refine g_iconst hX dX4_distanceOf_85 (rfl : 85 + 1 = 86) ?_
          refine g_goto (pc' := 90) hX dX4_distanceOf_86 (by decide) ?_
          refine g_drop (lv' := [some (.ref (q 0)), some (.int (iz v1)), some (.int (iz v2)), some (.int (iz v3)), some (.int (iz v4)), none, some (.int (iz v6))]) 5 rfl ?_
          exact wX4_distanceOf_90 hX hk_42 hk_56 v1 v2 v3 v4 v6 1 Y
set_option maxRecDepth 100000 in
theorem wX4_distanceOf_42 {X : Cx} {D : va_G} {y : ClassId × ClassId × ClassId} {q : Nat → Nat} (hX : OKX X cX4_distanceOf RX4 (rmk 0) (some .int) D y) : ∀ (n : Nat) (v1 v2 v3 v4 : Int) (Y : St), GF X cX4_distanceOf D (0, 0) (QI X D y (wM y q)) (fX4_distanceOf_l42 n v1 v2 v3 v4 Y) 42 [some (.ref (q 0)), some (.int (iz v1)), some (.int (iz v2)), some (.int (iz v3)), some (.int (iz v4)), none, none] [] (wM y q Y) := by
  intro n
  induction n with
  | zero => intro v1 v2 v3 v4 Y; exact g_none
  | succ n hk_42 =>
    intro v1 v2 v3 v4 Y
    unfold fX4_distanceOf_l42
    refine g_iload hX dX4_distanceOf_42 (rfl : 42 + 2 = 44) rfl ?_
    refine g_iload_n hX dX4_distanceOf_44 (rfl : 44 + 1 = 45) rfl ?_
    refine g_icmp_gt (tgt := 117) hX dX4_distanceOf_45 (by decide) (rfl : 45 + 3 = 48) ?_ ?_
    · refine g_drop (lv' := [some (.ref (q 0)), none, some (.int (iz v2)), some (.int (iz v3)), some (.int (iz v4)), none, none]) 1 rfl ?_
      refine g_drop (lv' := [some (.ref (q 0)), none, none, some (.int (iz v3)), some (.int (iz v4)), none, none]) 2 rfl ?_
      refine g_drop (lv' := [some (.ref (q 0)), none, none, some (.int (iz v3)), none, none, none]) 4 rfl ?_
      exact wX4_distanceOf_117 hX v3 Y
    · refine g_iconst hX dX4_distanceOf_48 (rfl : 48 + 1 = 49) ?_
      refine g_istore (lv' := fun x105 => [some (.ref (q 0)), some (.int (iz v1)), some (.int (iz v2)), some (.int (iz v3)), some (.int (iz v4)), some (.int (iz x105)), none]) hX dX4_distanceOf_49 (rfl : 49 + 2 = 51) rfl (fun _ => rfl) (fun x105 => ?_)
      refine g_iload_n hX dX4_distanceOf_51 (rfl : 51 + 1 = 52) rfl ?_
      refine g_iconst hX dX4_distanceOf_52 (rfl : 52 + 1 = 53) ?_
      refine g_iadd hX dX4_distanceOf_53 (rfl : 53 + 1 = 54) ?_
      refine g_istore (lv' := fun x106 => [some (.ref (q 0)), some (.int (iz v1)), some (.int (iz v2)), some (.int (iz v3)), some (.int (iz v4)), some (.int (iz x105)), some (.int (iz x106))]) hX dX4_distanceOf_54 (rfl : 54 + 2 = 56) rfl (fun _ => rfl) (fun x106 => ?_)
      exact wX4_distanceOf_56 hX hk_42 FU v1 v2 v3 v4 x105 x106 Y
set_option maxRecDepth 100000 in
theorem wX4_distanceOf_29 {X : Cx} {D : va_G} {y : ClassId × ClassId × ClassId} {q : Nat → Nat} (hX : OKX X cX4_distanceOf RX4 (rmk 0) (some .int) D y) (v1 v2 : Int) (Y : St) : GF X cX4_distanceOf D (0, 0) (QI X D y (wM y q)) (fX4_distanceOf_j29 v1 v2 Y) 29 [some (.ref (q 0)), some (.int (iz v1)), some (.int (iz v2)), none, none, none, none] [] (wM y q Y) := by
  unfold fX4_distanceOf_j29
  refine g_iload_n hX dX4_distanceOf_29 (rfl : 29 + 1 = 30) rfl ?_
  refine g_if_ge (tgt := 35) hX dX4_distanceOf_30 (by decide) (rfl : 30 + 3 = 33) ?_ ?_
  · refine g_iconst hX dX4_distanceOf_35 (rfl : 35 + 1 = 36) ?_
    refine g_istore_n (lv' := fun x107 => [some (.ref (q 0)), some (.int (iz v1)), some (.int (iz v2)), some (.int (iz x107)), none, none, none]) hX dX4_distanceOf_36 (rfl : 36 + 1 = 37) rfl (fun _ => rfl) (fun x107 => ?_)
    refine g_iload_n hX dX4_distanceOf_37 (rfl : 37 + 1 = 38) rfl ?_
    refine g_iconst hX dX4_distanceOf_38 (rfl : 38 + 1 = 39) ?_
    refine g_iadd hX dX4_distanceOf_39 (rfl : 39 + 1 = 40) ?_
    refine g_istore (lv' := fun x108 => [some (.ref (q 0)), some (.int (iz v1)), some (.int (iz v2)), some (.int (iz x107)), some (.int (iz x108)), none, none]) hX dX4_distanceOf_40 (rfl : 40 + 2 = 42) rfl (fun _ => rfl) (fun x108 => ?_)
    exact wX4_distanceOf_42 hX FU v1 v2 x107 x108 Y
  · refine g_iconst hX dX4_distanceOf_33 (rfl : 33 + 1 = 34) ?_
    exact g_iret hX dX4_distanceOf_34
set_option maxRecDepth 100000 in
theorem wX4_distanceOf_4 {X : Cx} {D : va_G} {y : ClassId × ClassId × ClassId} {q : Nat → Nat} (hX : OKX X cX4_distanceOf RX4 (rmk 0) (some .int) D y) : ∀ (n : Nat) (v1 v2 : Int) (Y : St), GF X cX4_distanceOf D (0, 0) (QI X D y (wM y q)) (fX4_distanceOf_l4 n v1 v2 Y) 4 [some (.ref (q 0)), some (.int (iz v1)), some (.int (iz v2)), none, none, none, none] [] (wM y q Y) := by
  intro n
  induction n with
  | zero => intro v1 v2 Y; exact g_none
  | succ n hk_4 =>
    intro v1 v2 Y
    unfold fX4_distanceOf_l4
    refine g_iload_n hX dX4_distanceOf_4 (rfl : 4 + 1 = 5) rfl ?_
    refine g_if_lt (tgt := 29) hX dX4_distanceOf_5 (by decide) (rfl : 5 + 3 = 8) ?_ ?_
    · exact wX4_distanceOf_29 hX v1 v2 Y
    · refine g_aload_n hX dX4_distanceOf_8 (rfl : 8 + 1 = 9) rfl ?_
      refine ge_M_X4_13_M hX dX4_distanceOf_9 (rfl : 9 + 3 = 12) ?_
      refine g_iload_n hX dX4_distanceOf_12 (rfl : 12 + 1 = 13) rfl ?_
      refine al_M_M_1 hX dX4_distanceOf_13 (rfl : 13 + 1 = 14) ?_
      refine g_aload_n hX dX4_distanceOf_14 (rfl : 14 + 1 = 15) rfl ?_
      refine ge_M_X4_13_M hX dX4_distanceOf_15 (rfl : 15 + 3 = 18) ?_
      refine g_iload_n hX dX4_distanceOf_18 (rfl : 18 + 1 = 19) rfl ?_
      refine al_M_M_1 hX dX4_distanceOf_19 (rfl : 19 + 1 = 20) ?_
      refine g_icmp_eq (tgt := 29) hX dX4_distanceOf_20 (by decide) (rfl : 20 + 3 = 23) ?_ ?_
      · exact wX4_distanceOf_29 hX v1 v2 Y
      · refine g_iinc (lv' := fun x109 => [some (.ref (q 0)), some (.int (iz v1)), some (.int (iz x109)), none, none, none, none]) hX dX4_distanceOf_23 (rfl : 23 + 3 = 26) rfl (fun _ => rfl) (fun x109 => ?_)
        refine g_goto (pc' := 4) hX dX4_distanceOf_26 (by decide) ?_
        exact hk_4 v1 x109 Y
set_option maxRecDepth 100000 in
theorem kX4_distanceOf (l : Launch) (D : va_G) (y : ClassId × ClassId × ClassId) (q : Nat → Nat) (Y : St) (a0 : Int) : CtI l D y yX4_distanceOf cX4_distanceOf 7 (some .int) (rmk 0) [.ref (q 0), .int (iz a0)] (wM y q) Y (fX4_distanceOf Y a0) := by
  refine ctI_of (own := RX4) rfl (by decide) (cat1 rfl) rfl (fun X hl hX => ?_)
  subst hl
  show GF X cX4_distanceOf D (0, 0) (QI X D y (wM y q)) (fX4_distanceOf Y a0) 0 [some (.ref (q 0)), some (.int (iz a0)), none, none, none, none, none] [] (wM y q Y)
  unfold fX4_distanceOf
  refine g_iload_n hX dX4_distanceOf_0 (rfl : 0 + 1 = 1) rfl ?_
  refine g_iconst hX dX4_distanceOf_1 (rfl : 1 + 1 = 2) ?_
  refine g_isub hX dX4_distanceOf_2 (rfl : 2 + 1 = 3) ?_
  refine g_istore_n (lv' := fun x1 => [some (.ref (q 0)), some (.int (iz a0)), some (.int (iz x1)), none, none, none, none]) hX dX4_distanceOf_3 (rfl : 3 + 1 = 4) rfl (fun _ => rfl) (fun x1 => ?_)
  exact wX4_distanceOf_4 hX FU a0 x1 Y
set_option maxRecDepth 100000 in
theorem wX4_distance_17 {X : Cx} {D : va_G} {y : ClassId × ClassId × ClassId} {q : Nat → Nat} (hX : OKX X cX4_distance RX4 (rmk 2) (some .int) D y) (s0 : Int) (Y : St) : GF X cX4_distance D (0, 0) (QI X D y (wM y q)) (fX4_distance_j17 s0 Y) 17 [some (.ref (q 0)), none] [.int (iz s0)] (wM y q Y) := by
  unfold fX4_distance_j17
  exact g_iret hX dX4_distance_17
set_option maxRecDepth 100000 in
theorem kX4_distance (l : Launch) (D : va_G) (y : ClassId × ClassId × ClassId) (q : Nat → Nat) (Y : St) (a0 : Int) : CtI l D y yX4_distance cX4_distance 2 (some .int) (rmk 2) [.ref (q 0), .int (iz a0)] (wM y q) Y (fX4_distance Y a0) := by
  refine ctI_of (own := RX4) rfl (by decide) (cat1 rfl) rfl (fun X hl hX => ?_)
  subst hl
  show GF X cX4_distance D (0, 0) (QI X D y (wM y q)) (fX4_distance Y a0) 0 [some (.ref (q 0)), some (.int (iz a0))] [] (wM y q Y)
  unfold fX4_distance
  refine g_aload_n hX dX4_distance_0 (rfl : 0 + 1 = 1) rfl ?_
  refine g_iload_n hX dX4_distance_1 (rfl : 1 + 1 = 2) rfl ?_
  refine ci_MM hX (kX4_isAsking _ _ _ (q) _ _) mw_X4_90 (by decide) rfl rfl (Nat.le_of_ble_eq_true rfl) dX4_distance_2 (rfl : 2 + 3 = 5) (fun r2 Y1 => ?_)
  refine g_if_eq (tgt := 16) hX dX4_distance_5 (by decide) (rfl : 5 + 3 = 8) ?_ ?_
  · refine g_iconst hX dX4_distance_16 (rfl : 16 + 1 = 17) ?_
    refine g_drop (lv' := [some (.ref (q 0)), none]) 1 rfl ?_
    exact wX4_distance_17 hX ((-1)) Y1
  · refine g_aload_n hX dX4_distance_8 (rfl : 8 + 1 = 9) rfl ?_
    refine g_iload_n hX dX4_distance_9 (rfl : 9 + 1 = 10) rfl ?_
    refine ci_MM hX (kX4_distanceOf _ _ _ (q) _ _) mw_X4_238 (by decide) rfl rfl (Nat.le_of_ble_eq_true rfl) dX4_distance_10 (rfl : 10 + 3 = 13) (fun r4 Y3 => ?_)
    refine g_goto (pc' := 17) hX dX4_distance_13 (by decide) ?_
    refine g_drop (lv' := [some (.ref (q 0)), none]) 1 rfl ?_
    exact wX4_distance_17 hX r4 Y3
set_option maxRecDepth 100000 in
theorem wX4_curve_50 {X : Cx} {D : va_G} {y : ClassId × ClassId × ClassId} {q : Nat → Nat} (hX : OKX X cX4_curve RX4 (rmk 1) (some .int) D y) (v2 : Int) (Y : St) : GF X cX4_curve D (0, 0) (QI X D y (wM y q)) (fX4_curve_j50 v2 Y) 50 [some (.ref (q 0)), none, some (.int (iz v2)), none, none] [] (wM y q Y) := by
  unfold fX4_curve_j50
  refine g_iload_n hX dX4_curve_50 (rfl : 50 + 1 = 51) rfl ?_
  exact g_iret hX dX4_curve_51
set_option maxRecDepth 100000 in
theorem wX4_curve_42 {X : Cx} {D : va_G} {y : ClassId × ClassId × ClassId} {q : Nat → Nat} (hX : OKX X cX4_curve RX4 (rmk 1) (some .int) D y) {k_10 : Int → Int → Int → (St) → Option (Int × (St))} (hk_10 : ∀ (v1 v2 v3 : Int) (Y : St), GF X cX4_curve D (0, 0) (QI X D y (wM y q)) (k_10 v1 v2 v3 Y) 10 [some (.ref (q 0)), some (.int (iz v1)), some (.int (iz v2)), some (.int (iz v3)), none] [] (wM y q Y)) (v1 v3 s0 s1 : Int) (Y : St) : GF X cX4_curve D (0, 0) (QI X D y (wM y q)) (fX4_curve_j42 k_10 v1 v3 s0 s1 Y) 42 [some (.ref (q 0)), some (.int (iz v1)), none, some (.int (iz v3)), none] [.int (iz s0), .int (iz s1)] (wM y q Y) := by
  unfold fX4_curve_j42
  refine g_iadd hX dX4_curve_42 (rfl : 42 + 1 = 43) ?_
  refine g_istore_n (lv' := fun x101 => [some (.ref (q 0)), some (.int (iz v1)), some (.int (iz x101)), some (.int (iz v3)), none]) hX dX4_curve_43 (rfl : 43 + 1 = 44) rfl (fun _ => rfl) (fun x101 => ?_)
  refine g_iinc (lv' := fun x102 => [some (.ref (q 0)), some (.int (iz v1)), some (.int (iz x101)), some (.int (iz x102)), none]) hX dX4_curve_44 (rfl : 44 + 3 = 47) rfl (fun _ => rfl) (fun x102 => ?_)
  refine g_goto (pc' := 10) hX dX4_curve_47 (by decide) ?_
  exact hk_10 v1 x101 x102 Y
set_option maxRecDepth 100000 in
theorem wX4_curve_37 {X : Cx} {D : va_G} {y : ClassId × ClassId × ClassId} {q : Nat → Nat} (hX : OKX X cX4_curve RX4 (rmk 1) (some .int) D y) {k_10 : Int → Int → Int → (St) → Option (Int × (St))} (hk_10 : ∀ (v1 v2 v3 : Int) (Y : St), GF X cX4_curve D (0, 0) (QI X D y (wM y q)) (k_10 v1 v2 v3 Y) 10 [some (.ref (q 0)), some (.int (iz v1)), some (.int (iz v2)), some (.int (iz v3)), none] [] (wM y q Y)) (v1 v3 s0 : Int) (Y : St) : GF X cX4_curve D (0, 0) (QI X D y (wM y q)) (fX4_curve_j37 k_10 v1 v3 s0 Y) 37 [some (.ref (q 0)), some (.int (iz v1)), none, some (.int (iz v3)), none] [.int (iz s0)] (wM y q Y) := by
  unfold fX4_curve_j37
  refine g_iconst hX dX4_curve_37 (rfl : 37 + 1 = 38) ?_
  refine g_goto (pc' := 42) hX dX4_curve_38 (by decide) ?_
  exact wX4_curve_42 hX hk_10 v1 v3 1 s0 Y
set_option maxRecDepth 100000 in
theorem wX4_curve_10 {X : Cx} {D : va_G} {y : ClassId × ClassId × ClassId} {q : Nat → Nat} (hX : OKX X cX4_curve RX4 (rmk 1) (some .int) D y) : ∀ (n : Nat) (v1 v2 v3 : Int) (Y : St), GF X cX4_curve D (0, 0) (QI X D y (wM y q)) (fX4_curve_l10 n v1 v2 v3 Y) 10 [some (.ref (q 0)), some (.int (iz v1)), some (.int (iz v2)), some (.int (iz v3)), none] [] (wM y q Y) := by
  intro n
  induction n with
  | zero => intro v1 v2 v3 Y; exact g_none
  | succ n hk_10 =>
    intro v1 v2 v3 Y
    unfold fX4_curve_l10
    refine g_iload_n hX dX4_curve_10 (rfl : 10 + 1 = 11) rfl ?_
    refine g_aload_n hX dX4_curve_11 (rfl : 11 + 1 = 12) rfl ?_
    refine ge_M_X4_73_M hX dX4_curve_12 (rfl : 12 + 3 = 15) ?_
    refine g_icmp_ge (tgt := 50) hX dX4_curve_15 (by decide) (rfl : 15 + 3 = 18) ?_ ?_
    · refine g_drop (lv' := [some (.ref (q 0)), none, some (.int (iz v2)), some (.int (iz v3)), none]) 1 rfl ?_
      refine g_drop (lv' := [some (.ref (q 0)), none, some (.int (iz v2)), none, none]) 3 rfl ?_
      exact wX4_curve_50 hX v2 Y
    · refine g_aload_n hX dX4_curve_18 (rfl : 18 + 1 = 19) rfl ?_
      refine g_iload_n hX dX4_curve_19 (rfl : 19 + 1 = 20) rfl ?_
      refine ci_MM hX (kX4_distanceOf _ _ _ (q) _ _) mw_X4_238 (by decide) rfl rfl (Nat.le_of_ble_eq_true rfl) dX4_curve_20 (rfl : 20 + 3 = 23) (fun r104 Y103 => ?_)
      refine g_istore (lv' := fun x105 => [some (.ref (q 0)), some (.int (iz v1)), some (.int (iz v2)), some (.int (iz v3)), some (.int (iz x105))]) hX dX4_curve_23 (rfl : 23 + 2 = 25) rfl (fun _ => rfl) (fun x105 => ?_)
      refine g_iload_n hX dX4_curve_25 (rfl : 25 + 1 = 26) rfl ?_
      refine g_iload hX dX4_curve_26 (rfl : 26 + 2 = 28) rfl ?_
      refine g_if_eq (tgt := 37) hX dX4_curve_28 (by decide) (rfl : 28 + 3 = 31) ?_ ?_
      · refine g_drop (lv' := [some (.ref (q 0)), some (.int (iz v1)), none, some (.int (iz v3)), some (.int (iz x105))]) 2 rfl ?_
        refine g_drop (lv' := [some (.ref (q 0)), some (.int (iz v1)), none, some (.int (iz v3)), none]) 4 rfl ?_
        exact wX4_curve_37 hX hk_10 v1 v3 v2 Y103
      · refine g_iload hX dX4_curve_31 (rfl : 31 + 2 = 33) rfl ?_
        refine g_iload_n hX dX4_curve_33 (rfl : 33 + 1 = 34) rfl ?_
        refine g_icmp_le (tgt := 41) hX dX4_curve_34 (by decide) (rfl : 34 + 3 = 37) ?_ ?_
        · refine g_iconst hX dX4_curve_41 (rfl : 41 + 1 = 42) ?_
          refine g_drop (lv' := [some (.ref (q 0)), some (.int (iz v1)), none, some (.int (iz v3)), some (.int (iz x105))]) 2 rfl ?_
          refine g_drop (lv' := [some (.ref (q 0)), some (.int (iz v1)), none, some (.int (iz v3)), none]) 4 rfl ?_
          exact wX4_curve_42 hX hk_10 v1 v3 0 v2 Y103
        · refine g_drop (lv' := [some (.ref (q 0)), some (.int (iz v1)), none, some (.int (iz v3)), some (.int (iz x105))]) 2 rfl ?_
          refine g_drop (lv' := [some (.ref (q 0)), some (.int (iz v1)), none, some (.int (iz v3)), none]) 4 rfl ?_
          exact wX4_curve_37 hX hk_10 v1 v3 v2 Y103
set_option maxRecDepth 100000 in
theorem kX4_curve (l : Launch) (D : va_G) (y : ClassId × ClassId × ClassId) (q : Nat → Nat) (Y : St) (a0 : Int) : CtI l D y yX4_curve cX4_curve 5 (some .int) (rmk 1) [.ref (q 0), .int (iz a0)] (wM y q) Y (fX4_curve Y a0) := by
  refine ctI_of (own := RX4) rfl (by decide) (cat1 rfl) rfl (fun X hl hX => ?_)
  subst hl
  show GF X cX4_curve D (0, 0) (QI X D y (wM y q)) (fX4_curve Y a0) 0 [some (.ref (q 0)), some (.int (iz a0)), none, none, none] [] (wM y q Y)
  unfold fX4_curve
  refine g_iload_n hX dX4_curve_0 (rfl : 0 + 1 = 1) rfl ?_
  refine g_if_ge (tgt := 6) hX dX4_curve_1 (by decide) (rfl : 1 + 3 = 4) ?_ ?_
  · refine g_iconst hX dX4_curve_6 (rfl : 6 + 1 = 7) ?_
    refine g_istore_n (lv' := fun x1 => [some (.ref (q 0)), some (.int (iz a0)), some (.int (iz x1)), none, none]) hX dX4_curve_7 (rfl : 7 + 1 = 8) rfl (fun _ => rfl) (fun x1 => ?_)
    refine g_iconst hX dX4_curve_8 (rfl : 8 + 1 = 9) ?_
    refine g_istore_n (lv' := fun x2 => [some (.ref (q 0)), some (.int (iz a0)), some (.int (iz x1)), some (.int (iz x2)), none]) hX dX4_curve_9 (rfl : 9 + 1 = 10) rfl (fun _ => rfl) (fun x2 => ?_)
    exact wX4_curve_10 hX FU a0 x1 x2 Y
  · refine g_iconst hX dX4_curve_4 (rfl : 4 + 1 = 5) ?_
    exact g_iret hX dX4_curve_5
set_option maxRecDepth 100000 in
theorem wX4_hard_104 {X : Cx} {D : va_G} {y : ClassId × ClassId × ClassId} {q : Nat → Nat} (hX : OKX X cX4_hard RX4 (rmk 5) (some .int) D y) (v3 : Int) (Y : St) : GF X cX4_hard D (0, 0) (QI X D y (wM y q)) (fX4_hard_j104 v3 Y) 104 [some (.ref (q 0)), none, none, some (.int (iz v3)), none, none] [] (wM y q Y) := by
  unfold fX4_hard_j104
  refine g_iload_n hX dX4_hard_104 (rfl : 104 + 1 = 105) rfl ?_
  exact g_iret hX dX4_hard_105
set_option maxRecDepth 100000 in
theorem wX4_hard_86 {X : Cx} {D : va_G} {y : ClassId × ClassId × ClassId} {q : Nat → Nat} (hX : OKX X cX4_hard RX4 (rmk 5) (some .int) D y) {k_61 : Int → Int → (St) → Option (Int × (St))} (hk_61 : ∀ (v3 v4 : Int) (Y : St), GF X cX4_hard D (0, 0) (QI X D y (wM y q)) (k_61 v3 v4 Y) 61 [some (.ref (q 0)), none, none, some (.int (iz v3)), some (.int (iz v4)), none] [] (wM y q Y)) (v3 v4 v5 : Int) (Y : St) : GF X cX4_hard D (0, 0) (QI X D y (wM y q)) (fX4_hard_j86 k_61 v3 v4 v5 Y) 86 [some (.ref (q 0)), none, none, some (.int (iz v3)), some (.int (iz v4)), some (.int (iz v5))] [] (wM y q Y) := by
  unfold fX4_hard_j86
  refine g_aload_n hX dX4_hard_86 (rfl : 86 + 1 = 87) rfl ?_
  refine g_iload hX dX4_hard_87 (rfl : 87 + 2 = 89) rfl ?_
  refine cv_MM hX (kX4_add _ _ _ (q) _ _) mw_X4_85 (by decide) rfl rfl (Nat.le_of_ble_eq_true rfl) dX4_hard_89 (rfl : 89 + 3 = 92) (fun Y101 => ?_)
  refine g_aload_n hX dX4_hard_92 (rfl : 92 + 1 = 93) rfl ?_
  refine g_iload hX dX4_hard_93 (rfl : 93 + 2 = 95) rfl ?_
  refine cv_MM hX (kX4_serveOne _ _ _ (q) _ _) mw_X4_187 (by decide) rfl rfl (Nat.le_of_ble_eq_true rfl) dX4_hard_95 (rfl : 95 + 3 = 98) (fun Y102 => ?_)
  refine g_iinc (lv' := fun x103 => [some (.ref (q 0)), none, none, some (.int (iz v3)), some (.int (iz x103)), some (.int (iz v5))]) hX dX4_hard_98 (rfl : 98 + 3 = 101) rfl (fun _ => rfl) (fun x103 => ?_)
  refine g_goto (pc' := 61) hX dX4_hard_101 (by decide) ?_
  refine g_drop (lv' := [some (.ref (q 0)), none, none, some (.int (iz v3)), some (.int (iz x103)), none]) 5 rfl ?_
  exact hk_61 v3 x103 Y102
set_option maxRecDepth 100000 in
theorem wX4_hard_70 {X : Cx} {D : va_G} {y : ClassId × ClassId × ClassId} {q : Nat → Nat} (hX : OKX X cX4_hard RX4 (rmk 5) (some .int) D y) {k_61 : Int → Int → (St) → Option (Int × (St))} (hk_61 : ∀ (v3 v4 : Int) (Y : St), GF X cX4_hard D (0, 0) (QI X D y (wM y q)) (k_61 v3 v4 Y) 61 [some (.ref (q 0)), none, none, some (.int (iz v3)), some (.int (iz v4)), none] [] (wM y q Y)) : ∀ (n : Nat) (v3 v4 v5 : Int) (Y : St), GF X cX4_hard D (0, 0) (QI X D y (wM y q)) (fX4_hard_l70 k_61 n v3 v4 v5 Y) 70 [some (.ref (q 0)), none, none, some (.int (iz v3)), some (.int (iz v4)), some (.int (iz v5))] [] (wM y q Y) := by
  intro n
  induction n with
  | zero => intro v3 v4 v5 Y; exact g_none
  | succ n hk_70 =>
    intro v3 v4 v5 Y
    unfold fX4_hard_l70
    refine g_aload_n hX dX4_hard_70 (rfl : 70 + 1 = 71) rfl ?_
    refine ge_M_X4_28_M hX dX4_hard_71 (rfl : 71 + 3 = 74) ?_
    refine g_iload hX dX4_hard_74 (rfl : 74 + 2 = 76) rfl ?_
    refine al_M_M_13 hX dX4_hard_76 (rfl : 76 + 1 = 77) ?_
    refine g_if_eq (tgt := 86) hX dX4_hard_77 (by decide) (rfl : 77 + 3 = 80) ?_ ?_
    · exact wX4_hard_86 hX hk_61 v3 v4 v5 Y
    · refine g_iinc (lv' := fun x104 => [some (.ref (q 0)), none, none, some (.int (iz v3)), some (.int (iz v4)), some (.int (iz x104))]) hX dX4_hard_80 (rfl : 80 + 3 = 83) rfl (fun _ => rfl) (fun x104 => ?_)
      refine g_goto (pc' := 70) hX dX4_hard_83 (by decide) ?_
      exact hk_70 v3 v4 x104 Y
set_option maxRecDepth 100000 in
theorem wX4_hard_61 {X : Cx} {D : va_G} {y : ClassId × ClassId × ClassId} {q : Nat → Nat} (hX : OKX X cX4_hard RX4 (rmk 5) (some .int) D y) : ∀ (n : Nat) (v3 v4 : Int) (Y : St), GF X cX4_hard D (0, 0) (QI X D y (wM y q)) (fX4_hard_l61 n v3 v4 Y) 61 [some (.ref (q 0)), none, none, some (.int (iz v3)), some (.int (iz v4)), none] [] (wM y q Y) := by
  intro n
  induction n with
  | zero => intro v3 v4 Y; exact g_none
  | succ n hk_61 =>
    intro v3 v4 Y
    unfold fX4_hard_l61
    refine g_iload hX dX4_hard_61 (rfl : 61 + 2 = 63) rfl ?_
    refine g_iload_n hX dX4_hard_63 (rfl : 63 + 1 = 64) rfl ?_
    refine g_icmp_ge (tgt := 104) hX dX4_hard_64 (by decide) (rfl : 64 + 3 = 67) ?_ ?_
    · refine g_drop (lv' := [some (.ref (q 0)), none, none, some (.int (iz v3)), none, none]) 4 rfl ?_
      exact wX4_hard_104 hX v3 Y
    · refine g_iconst hX dX4_hard_67 (rfl : 67 + 1 = 68) ?_
      refine g_istore (lv' := fun x105 => [some (.ref (q 0)), none, none, some (.int (iz v3)), some (.int (iz v4)), some (.int (iz x105))]) hX dX4_hard_68 (rfl : 68 + 2 = 70) rfl (fun _ => rfl) (fun x105 => ?_)
      exact wX4_hard_70 hX hk_61 FU v3 v4 x105 Y
set_option maxRecDepth 100000 in
theorem wX4_hard_31 {X : Cx} {D : va_G} {y : ClassId × ClassId × ClassId} {q : Nat → Nat} (hX : OKX X cX4_hard RX4 (rmk 5) (some .int) D y) (Y : St) : GF X cX4_hard D (0, 0) (QI X D y (wM y q)) (fX4_hard_j31  Y) 31 [some (.ref (q 0)), none, none, none, none, none] [] (wM y q Y) := by
  unfold fX4_hard_j31
  refine g_iconst hX dX4_hard_31 (rfl : 31 + 1 = 32) ?_
  exact g_iret hX dX4_hard_32
set_option maxRecDepth 100000 in
theorem kX4_hard (l : Launch) (D : va_G) (y : ClassId × ClassId × ClassId) (q : Nat → Nat) (Y : St) (a0 a1 a2 : Int) : CtI l D y yX4_hard cX4_hard 6 (some .int) (rmk 5) [.ref (q 0), .int (iz a0), .int (iz a1), .int (iz a2)] (wM y q) Y (fX4_hard Y a0 a1 a2) := by
  refine ctI_of (own := RX4) rfl (by decide) (cat1 rfl) rfl (fun X hl hX => ?_)
  subst hl
  show GF X cX4_hard D (0, 0) (QI X D y (wM y q)) (fX4_hard Y a0 a1 a2) 0 [some (.ref (q 0)), some (.int (iz a0)), some (.int (iz a1)), some (.int (iz a2)), none, none] [] (wM y q Y)
  unfold fX4_hard
  refine g_iload_n hX dX4_hard_0 (rfl : 0 + 1 = 1) rfl ?_
  refine g_iconst hX dX4_hard_1 (rfl : 1 + 1 = 2) ?_
  refine g_bipush hX dX4_hard_2 (by decide) (rfl : 2 + 2 = 4) ?_
  refine g_callp hX (kX4_in _ _ _ _ _ _) mw_X4_69 (by decide) rfl rfl (Nat.le_of_ble_eq_true rfl) dX4_hard_4 (rfl : 4 + 3 = 7) (fun r1 => ?_)
  refine g_if_eq (tgt := 31) hX dX4_hard_7 (by decide) (rfl : 7 + 3 = 10) ?_ ?_
  · refine g_drop (lv' := [some (.ref (q 0)), none, some (.int (iz a1)), some (.int (iz a2)), none, none]) 1 rfl ?_
    refine g_drop (lv' := [some (.ref (q 0)), none, none, some (.int (iz a2)), none, none]) 2 rfl ?_
    refine g_drop (lv' := [some (.ref (q 0)), none, none, none, none, none]) 3 rfl ?_
    exact wX4_hard_31 hX  Y
  · refine g_iload_n hX dX4_hard_10 (rfl : 10 + 1 = 11) rfl ?_
    refine g_iconst hX dX4_hard_11 (rfl : 11 + 1 = 12) ?_
    refine g_bipush hX dX4_hard_12 (by decide) (rfl : 12 + 2 = 14) ?_
    refine g_callp hX (kX4_in _ _ _ _ _ _) mw_X4_69 (by decide) rfl rfl (Nat.le_of_ble_eq_true rfl) dX4_hard_14 (rfl : 14 + 3 = 17) (fun r2 => ?_)
    refine g_if_eq (tgt := 31) hX dX4_hard_17 (by decide) (rfl : 17 + 3 = 20) ?_ ?_
    · refine g_drop (lv' := [some (.ref (q 0)), none, some (.int (iz a1)), some (.int (iz a2)), none, none]) 1 rfl ?_
      refine g_drop (lv' := [some (.ref (q 0)), none, none, some (.int (iz a2)), none, none]) 2 rfl ?_
      refine g_drop (lv' := [some (.ref (q 0)), none, none, none, none, none]) 3 rfl ?_
      exact wX4_hard_31 hX  Y
    · refine g_iload_n hX dX4_hard_20 (rfl : 20 + 1 = 21) rfl ?_
      refine g_iconst hX dX4_hard_21 (rfl : 21 + 1 = 22) ?_
      refine g_sipush hX dX4_hard_22 (by decide) (rfl : 22 + 3 = 25) ?_
      refine g_callp hX (kX4_in _ _ _ _ _ _) mw_X4_69 (by decide) rfl rfl (Nat.le_of_ble_eq_true rfl) dX4_hard_25 (rfl : 25 + 3 = 28) (fun r3 => ?_)
      refine g_if_ne (tgt := 33) hX dX4_hard_28 (by decide) (rfl : 28 + 3 = 31) ?_ ?_
      · refine g_iload_n hX dX4_hard_33 (rfl : 33 + 1 = 34) rfl ?_
        refine g_bipush hX dX4_hard_34 (by decide) (rfl : 34 + 2 = 36) ?_
        refine g_icmp_ne (tgt := 42) hX dX4_hard_36 (by decide) (rfl : 36 + 3 = 39) ?_ ?_
        · refine g_aload_n hX dX4_hard_42 (rfl : 42 + 1 = 43) rfl ?_
          refine g_iconst hX dX4_hard_43 (rfl : 43 + 1 = 44) ?_
          refine pu_M_X4_73_M hX dX4_hard_44 (rfl : 44 + 3 = 47) (fun Y4 => ?_)
          refine g_aload_n hX dX4_hard_47 (rfl : 47 + 1 = 48) rfl ?_
          refine g_iconst hX dX4_hard_48 (rfl : 48 + 1 = 49) ?_
          refine pu_M_X4_81_M hX dX4_hard_49 (rfl : 49 + 3 = 52) (fun Y5 => ?_)
          refine g_aload_n hX dX4_hard_52 (rfl : 52 + 1 = 53) rfl ?_
          refine g_iload_n hX dX4_hard_53 (rfl : 53 + 1 = 54) rfl ?_
          refine g_iload_n hX dX4_hard_54 (rfl : 54 + 1 = 55) rfl ?_
          refine cv_MM hX (kX4_begin _ _ _ (q) _ _ _) mw_X4_184 (by decide) rfl rfl (Nat.le_of_ble_eq_true rfl) dX4_hard_55 (rfl : 55 + 3 = 58) (fun Y6 => ?_)
          refine g_iconst hX dX4_hard_58 (rfl : 58 + 1 = 59) ?_
          refine g_istore (lv' := fun x7 => [some (.ref (q 0)), some (.int (iz a0)), some (.int (iz a1)), some (.int (iz a2)), some (.int (iz x7)), none]) hX dX4_hard_59 (rfl : 59 + 2 = 61) rfl (fun _ => rfl) (fun x7 => ?_)
          refine g_drop (lv' := [some (.ref (q 0)), none, some (.int (iz a1)), some (.int (iz a2)), some (.int (iz x7)), none]) 1 rfl ?_
          refine g_drop (lv' := [some (.ref (q 0)), none, none, some (.int (iz a2)), some (.int (iz x7)), none]) 2 rfl ?_
          exact wX4_hard_61 hX FU a2 x7 Y6
        · refine g_bipush hX dX4_hard_39 (by decide) (rfl : 39 + 2 = 41) ?_
          exact g_iret hX dX4_hard_41
      · refine g_drop (lv' := [some (.ref (q 0)), none, some (.int (iz a1)), some (.int (iz a2)), none, none]) 1 rfl ?_
        refine g_drop (lv' := [some (.ref (q 0)), none, none, some (.int (iz a2)), none, none]) 2 rfl ?_
        refine g_drop (lv' := [some (.ref (q 0)), none, none, none, none, none]) 3 rfl ?_
        exact wX4_hard_31 hX  Y
set_option maxRecDepth 100000 in
theorem kX4_claim (l : Launch) (D : va_G) (y : ClassId × ClassId × ClassId) (q : Nat → Nat) (Y : St) (a0 : Int) : CtI l D y yX4_claim cX4_claim 2 (some .int) (rmk 1) [.ref (q 0), .int (iz a0)] (wM y q) Y (fX4_claim Y a0) := by
  refine ctI_of (own := RX4) rfl (by decide) (cat1 rfl) rfl (fun X hl hX => ?_)
  subst hl
  show GF X cX4_claim D (0, 0) (QI X D y (wM y q)) (fX4_claim Y a0) 0 [some (.ref (q 0)), some (.int (iz a0))] [] (wM y q Y)
  unfold fX4_claim
  refine g_iload_n hX dX4_claim_0 (rfl : 0 + 1 = 1) rfl ?_
  refine g_iconst hX dX4_claim_1 (rfl : 1 + 1 = 2) ?_
  refine g_bipush hX dX4_claim_2 (by decide) (rfl : 2 + 2 = 4) ?_
  refine g_callp hX (kX4_in _ _ _ _ _ _) mw_X4_69 (by decide) rfl rfl (Nat.le_of_ble_eq_true rfl) dX4_claim_4 (rfl : 4 + 3 = 7) (fun r1 => ?_)
  refine g_if_ne (tgt := 12) hX dX4_claim_7 (by decide) (rfl : 7 + 3 = 10) ?_ ?_
  · refine g_aload_n hX dX4_claim_12 (rfl : 12 + 1 = 13) rfl ?_
    refine ge_M_X4_97_M hX dX4_claim_13 (rfl : 13 + 3 = 16) ?_
    refine g_sipush hX dX4_claim_16 (by decide) (rfl : 16 + 3 = 19) ?_
    refine g_icmp_ne (tgt := 25) hX dX4_claim_19 (by decide) (rfl : 19 + 3 = 22) ?_ ?_
    · refine g_aload_n hX dX4_claim_25 (rfl : 25 + 1 = 26) rfl ?_
      refine ge_M_X4_22_M hX dX4_claim_26 (rfl : 26 + 3 = 29) ?_
      refine g_aload_n hX dX4_claim_29 (rfl : 29 + 1 = 30) rfl ?_
      refine ge_M_X4_97_M hX dX4_claim_30 (rfl : 30 + 3 = 33) ?_
      refine g_iload_n hX dX4_claim_33 (rfl : 33 + 1 = 34) rfl ?_
      refine as_M_M_8 hX dX4_claim_34 (rfl : 34 + 1 = 35) (fun Y2 => ?_)
      refine g_aload_n hX dX4_claim_35 (rfl : 35 + 1 = 36) rfl ?_
      refine g_dup hX dX4_claim_36 rfl (rfl : 36 + 1 = 37) ?_
      refine ge_M_X4_97_M hX dX4_claim_37 (rfl : 37 + 3 = 40) ?_
      refine g_iconst hX dX4_claim_40 (rfl : 40 + 1 = 41) ?_
      refine g_iadd hX dX4_claim_41 (rfl : 41 + 1 = 42) ?_
      refine pu_M_X4_97_M hX dX4_claim_42 (rfl : 42 + 3 = 45) (fun Y3 => ?_)
      refine g_aload_n hX dX4_claim_45 (rfl : 45 + 1 = 46) rfl ?_
      refine ge_M_X4_97_M hX dX4_claim_46 (rfl : 46 + 3 = 49) ?_
      exact g_iret hX dX4_claim_49
    · refine g_bipush hX dX4_claim_22 (by decide) (rfl : 22 + 2 = 24) ?_
      exact g_iret hX dX4_claim_24
  · refine g_iconst hX dX4_claim_10 (rfl : 10 + 1 = 11) ?_
    exact g_iret hX dX4_claim_11
set_option maxRecDepth 100000 in
theorem wX4_copy_46 {X : Cx} {D : va_G} {y : ClassId × ClassId × ClassId} {q : Nat → Nat} (hX : OKX X cX4_copy RX4 (rmk 0) (some .int) D y) (Y : St) : GF X cX4_copy D (0, 0) (QI X D y (wM y q)) (fX4_copy_j46  Y) 46 [some (.ref (q 0)), none] [] (wM y q Y) := by
  unfold fX4_copy_j46
  refine g_aload_n hX dX4_copy_46 (rfl : 46 + 1 = 47) rfl ?_
  refine ge_M_X4_97_M hX dX4_copy_47 (rfl : 47 + 3 = 50) ?_
  exact g_iret hX dX4_copy_50
set_option maxRecDepth 100000 in
theorem wX4_copy_20 {X : Cx} {D : va_G} {y : ClassId × ClassId × ClassId} {q : Nat → Nat} (hX : OKX X cX4_copy RX4 (rmk 0) (some .int) D y) : ∀ (n : Nat) (v1 : Int) (Y : St), GF X cX4_copy D (0, 0) (QI X D y (wM y q)) (fX4_copy_l20 n v1 Y) 20 [some (.ref (q 0)), some (.int (iz v1))] [] (wM y q Y) := by
  intro n
  induction n with
  | zero => intro v1 Y; exact g_none
  | succ n hk_20 =>
    intro v1 Y
    unfold fX4_copy_l20
    refine g_iload_n hX dX4_copy_20 (rfl : 20 + 1 = 21) rfl ?_
    refine g_aload_n hX dX4_copy_21 (rfl : 21 + 1 = 22) rfl ?_
    refine ge_M_X4_73_M hX dX4_copy_22 (rfl : 22 + 3 = 25) ?_
    refine g_icmp_ge (tgt := 46) hX dX4_copy_25 (by decide) (rfl : 25 + 3 = 28) ?_ ?_
    · refine g_drop (lv' := [some (.ref (q 0)), none]) 1 rfl ?_
      exact wX4_copy_46 hX  Y
    · refine g_aload_n hX dX4_copy_28 (rfl : 28 + 1 = 29) rfl ?_
      refine ge_M_X4_22_M hX dX4_copy_29 (rfl : 29 + 3 = 32) ?_
      refine g_iload_n hX dX4_copy_32 (rfl : 32 + 1 = 33) rfl ?_
      refine g_aload_n hX dX4_copy_33 (rfl : 33 + 1 = 34) rfl ?_
      refine ge_M_X4_19_M hX dX4_copy_34 (rfl : 34 + 3 = 37) ?_
      refine g_iload_n hX dX4_copy_37 (rfl : 37 + 1 = 38) rfl ?_
      refine al_M_M_7 hX dX4_copy_38 (rfl : 38 + 1 = 39) ?_
      refine as_M_M_8 hX dX4_copy_39 (rfl : 39 + 1 = 40) (fun Y101 => ?_)
      refine g_iinc (lv' := fun x102 => [some (.ref (q 0)), some (.int (iz x102))]) hX dX4_copy_40 (rfl : 40 + 3 = 43) rfl (fun _ => rfl) (fun x102 => ?_)
      refine g_goto (pc' := 20) hX dX4_copy_43 (by decide) ?_
      exact hk_20 x102 Y101
set_option maxRecDepth 100000 in
theorem kX4_copy (l : Launch) (D : va_G) (y : ClassId × ClassId × ClassId) (q : Nat → Nat) (Y : St) : CtI l D y yX4_copy cX4_copy 2 (some .int) (rmk 0) [.ref (q 0)] (wM y q) Y (fX4_copy Y) := by
  refine ctI_of (own := RX4) rfl (by decide) (cat1 rfl) rfl (fun X hl hX => ?_)
  subst hl
  show GF X cX4_copy D (0, 0) (QI X D y (wM y q)) (fX4_copy Y) 0 [some (.ref (q 0)), none] [] (wM y q Y)
  unfold fX4_copy
  refine g_aload_n hX dX4_copy_0 (rfl : 0 + 1 = 1) rfl ?_
  refine ge_M_X4_81_M hX dX4_copy_1 (rfl : 1 + 3 = 4) ?_
  refine g_if_ne (tgt := 10) hX dX4_copy_4 (by decide) (rfl : 4 + 3 = 7) ?_ ?_
  · refine g_aload_n hX dX4_copy_10 (rfl : 10 + 1 = 11) rfl ?_
    refine g_aload_n hX dX4_copy_11 (rfl : 11 + 1 = 12) rfl ?_
    refine ge_M_X4_73_M hX dX4_copy_12 (rfl : 12 + 3 = 15) ?_
    refine pu_M_X4_97_M hX dX4_copy_15 (rfl : 15 + 3 = 18) (fun Y1 => ?_)
    refine g_iconst hX dX4_copy_18 (rfl : 18 + 1 = 19) ?_
    refine g_istore_n (lv' := fun x2 => [some (.ref (q 0)), some (.int (iz x2))]) hX dX4_copy_19 (rfl : 19 + 1 = 20) rfl (fun _ => rfl) (fun x2 => ?_)
    exact wX4_copy_20 hX FU x2 Y1
  · refine g_bipush hX dX4_copy_7 (by decide) (rfl : 7 + 2 = 9) ?_
    exact g_iret hX dX4_copy_9
set_option maxRecDepth 100000 in
theorem kX4_unclaim (l : Launch) (D : va_G) (y : ClassId × ClassId × ClassId) (q : Nat → Nat) (Y : St) : CtI l D y yX4_unclaim cX4_unclaim 2 (some .int) (rmk 0) [.ref (q 0)] (wM y q) Y (fX4_unclaim Y) := by
  refine ctI_of (own := RX4) rfl (by decide) (cat1 rfl) rfl (fun X hl hX => ?_)
  subst hl
  show GF X cX4_unclaim D (0, 0) (QI X D y (wM y q)) (fX4_unclaim Y) 0 [some (.ref (q 0)), none] [] (wM y q Y)
  unfold fX4_unclaim
  refine g_aload_n hX dX4_unclaim_0 (rfl : 0 + 1 = 1) rfl ?_
  refine ge_M_X4_97_M hX dX4_unclaim_1 (rfl : 1 + 3 = 4) ?_
  refine g_istore_n (lv' := fun x1 => [some (.ref (q 0)), some (.int (iz x1))]) hX dX4_unclaim_4 (rfl : 4 + 1 = 5) rfl (fun _ => rfl) (fun x1 => ?_)
  refine g_aload_n hX dX4_unclaim_5 (rfl : 5 + 1 = 6) rfl ?_
  refine g_iconst hX dX4_unclaim_6 (rfl : 6 + 1 = 7) ?_
  refine pu_M_X4_97_M hX dX4_unclaim_7 (rfl : 7 + 3 = 10) (fun Y2 => ?_)
  refine g_iload_n hX dX4_unclaim_10 (rfl : 10 + 1 = 11) rfl ?_
  exact g_iret hX dX4_unclaim_11
set_option maxRecDepth 100000 in
theorem wX4_cost_235 {X : Cx} {D : va_G} {y : ClassId × ClassId × ClassId} {q : Nat → Nat} (hX : OKX X cX4_cost RX4 (rmk 1) (some .int) D y) (s0 : Int) (Y : St) : GF X cX4_cost D (0, 0) (QI X D y (wM y q)) (fX4_cost_j235 s0 Y) 235 [some (.ref (q 0)), none, none, none, none, none, none, none, none] [.int (iz s0)] (wM y q Y) := by
  unfold fX4_cost_j235
  exact g_iret hX dX4_cost_235
set_option maxRecDepth 100000 in
theorem wX4_cost_213 {X : Cx} {D : va_G} {y : ClassId × ClassId × ClassId} {q : Nat → Nat} (hX : OKX X cX4_cost RX4 (rmk 1) (some .int) D y) (v3 : Int) (Y : St) : GF X cX4_cost D (0, 0) (QI X D y (wM y q)) (fX4_cost_j213 v3 Y) 213 [some (.ref (q 0)), none, none, some (.int (iz v3)), none, none, none, none, none] [] (wM y q Y) := by
  unfold fX4_cost_j213
  refine g_aload_n hX dX4_cost_213 (rfl : 213 + 1 = 214) rfl ?_
  refine ge_M_X4_97_M hX dX4_cost_214 (rfl : 214 + 3 = 217) ?_
  refine g_aload_n hX dX4_cost_217 (rfl : 217 + 1 = 218) rfl ?_
  refine ge_M_X4_73_M hX dX4_cost_218 (rfl : 218 + 3 = 221) ?_
  refine g_icmp_le (tgt := 234) hX dX4_cost_221 (by decide) (rfl : 221 + 3 = 224) ?_ ?_
  · refine g_iload_n hX dX4_cost_234 (rfl : 234 + 1 = 235) rfl ?_
    refine g_drop (lv' := [some (.ref (q 0)), none, none, none, none, none, none, none, none]) 3 rfl ?_
    exact wX4_cost_235 hX v3 Y
  · refine g_bipush hX dX4_cost_224 (by decide) (rfl : 224 + 2 = 226) ?_
    refine g_aload_n hX dX4_cost_226 (rfl : 226 + 1 = 227) rfl ?_
    refine ge_M_X4_73_M hX dX4_cost_227 (rfl : 227 + 3 = 230) ?_
    refine g_isub hX dX4_cost_230 (rfl : 230 + 1 = 231) ?_
    refine g_goto (pc' := 235) hX dX4_cost_231 (by decide) ?_
    refine g_drop (lv' := [some (.ref (q 0)), none, none, none, none, none, none, none, none]) 3 rfl ?_
    exact wX4_cost_235 hX (((-2) - (Y.1 2))) Y
set_option maxRecDepth 100000 in
theorem wX4_cost_207 {X : Cx} {D : va_G} {y : ClassId × ClassId × ClassId} {q : Nat → Nat} (hX : OKX X cX4_cost RX4 (rmk 1) (some .int) D y) {k_40 : Int → Int → Int → Int → (St) → Option (Int × (St))} (hk_40 : ∀ (v1 v2 v3 v4 : Int) (Y : St), GF X cX4_cost D (0, 0) (QI X D y (wM y q)) (k_40 v1 v2 v3 v4 Y) 40 [some (.ref (q 0)), some (.int (iz v1)), some (.int (iz v2)), some (.int (iz v3)), some (.int (iz v4)), none, none, none, none] [] (wM y q Y)) (v1 v2 v3 v4 : Int) (Y : St) : GF X cX4_cost D (0, 0) (QI X D y (wM y q)) (fX4_cost_j207 k_40 v1 v2 v3 v4 Y) 207 [some (.ref (q 0)), some (.int (iz v1)), some (.int (iz v2)), some (.int (iz v3)), some (.int (iz v4)), none, none, none, none] [] (wM y q Y) := by
  unfold fX4_cost_j207
  refine g_iinc (lv' := fun x101 => [some (.ref (q 0)), some (.int (iz v1)), some (.int (iz v2)), some (.int (iz v3)), some (.int (iz x101)), none, none, none, none]) hX dX4_cost_207 (rfl : 207 + 3 = 210) rfl (fun _ => rfl) (fun x101 => ?_)
  refine g_goto (pc' := 40) hX dX4_cost_210 (by decide) ?_
  exact hk_40 v1 v2 v3 x101 Y
set_option maxRecDepth 100000 in
theorem wX4_cost_171 {X : Cx} {D : va_G} {y : ClassId × ClassId × ClassId} {q : Nat → Nat} (hX : OKX X cX4_cost RX4 (rmk 1) (some .int) D y) {k_40 : Int → Int → Int → Int → (St) → Option (Int × (St))} (hk_40 : ∀ (v1 v2 v3 v4 : Int) (Y : St), GF X cX4_cost D (0, 0) (QI X D y (wM y q)) (k_40 v1 v2 v3 v4 Y) 40 [some (.ref (q 0)), some (.int (iz v1)), some (.int (iz v2)), some (.int (iz v3)), some (.int (iz v4)), none, none, none, none] [] (wM y q Y)) (v1 v2 v3 v4 v6 : Int) (Y : St) : GF X cX4_cost D (0, 0) (QI X D y (wM y q)) (fX4_cost_j171 k_40 v1 v2 v3 v4 v6 Y) 171 [some (.ref (q 0)), some (.int (iz v1)), some (.int (iz v2)), some (.int (iz v3)), some (.int (iz v4)), none, some (.int (iz v6)), none, none] [] (wM y q Y) := by
  unfold fX4_cost_j171
  refine g_iload hX dX4_cost_171 (rfl : 171 + 2 = 173) rfl ?_
  refine g_if_ne (tgt := 207) hX dX4_cost_173 (by decide) (rfl : 173 + 3 = 176) ?_ ?_
  · refine g_drop (lv' := [some (.ref (q 0)), some (.int (iz v1)), some (.int (iz v2)), some (.int (iz v3)), some (.int (iz v4)), none, none, none, none]) 6 rfl ?_
    exact wX4_cost_207 hX hk_40 v1 v2 v3 v4 Y
  · refine g_aload_n hX dX4_cost_176 (rfl : 176 + 1 = 177) rfl ?_
    refine ge_M_X4_66_M hX dX4_cost_177 (rfl : 177 + 3 = 180) ?_
    refine g_aload_n hX dX4_cost_180 (rfl : 180 + 1 = 181) rfl ?_
    refine ge_M_X4_13_M hX dX4_cost_181 (rfl : 181 + 3 = 184) ?_
    refine g_iload hX dX4_cost_184 (rfl : 184 + 2 = 186) rfl ?_
    refine al_M_M_1 hX dX4_cost_186 (rfl : 186 + 1 = 187) ?_
    refine g_iconst hX dX4_cost_187 (rfl : 187 + 1 = 188) ?_
    refine as_M_M_33 hX dX4_cost_188 (rfl : 188 + 1 = 189) (fun Y102 => ?_)
    refine g_iinc (lv' := fun x103 => [some (.ref (q 0)), some (.int (iz v1)), some (.int (iz x103)), some (.int (iz v3)), some (.int (iz v4)), none, some (.int (iz v6)), none, none]) hX dX4_cost_189 (rfl : 189 + 3 = 192) rfl (fun _ => rfl) (fun x103 => ?_)
    refine g_iload_n hX dX4_cost_192 (rfl : 192 + 1 = 193) rfl ?_
    refine g_aload_n hX dX4_cost_193 (rfl : 193 + 1 = 194) rfl ?_
    refine ge_M_X4_7_M hX dX4_cost_194 (rfl : 194 + 3 = 197) ?_
    refine g_aload_n hX dX4_cost_197 (rfl : 197 + 1 = 198) rfl ?_
    refine ge_M_X4_13_M hX dX4_cost_198 (rfl : 198 + 3 = 201) ?_
    refine g_iload hX dX4_cost_201 (rfl : 201 + 2 = 203) rfl ?_
    refine al_M_M_1 hX dX4_cost_203 (rfl : 203 + 1 = 204) ?_
    refine al_M_M_0 hX dX4_cost_204 (rfl : 204 + 1 = 205) ?_
    refine g_iadd hX dX4_cost_205 (rfl : 205 + 1 = 206) ?_
    refine g_istore_n (lv' := fun x104 => [some (.ref (q 0)), some (.int (iz v1)), some (.int (iz x103)), some (.int (iz x104)), some (.int (iz v4)), none, some (.int (iz v6)), none, none]) hX dX4_cost_206 (rfl : 206 + 1 = 207) rfl (fun _ => rfl) (fun x104 => ?_)
    refine g_drop (lv' := [some (.ref (q 0)), some (.int (iz v1)), some (.int (iz x103)), some (.int (iz x104)), some (.int (iz v4)), none, none, none, none]) 6 rfl ?_
    exact wX4_cost_207 hX hk_40 v1 x103 x104 v4 Y102
set_option maxRecDepth 100000 in
theorem wX4_cost_149 {X : Cx} {D : va_G} {y : ClassId × ClassId × ClassId} {q : Nat → Nat} (hX : OKX X cX4_cost RX4 (rmk 1) (some .int) D y) (v4 : Int) (Y : St) : GF X cX4_cost D (0, 0) (QI X D y (wM y q)) (fX4_cost_j149 v4 Y) 149 [some (.ref (q 0)), none, none, none, some (.int (iz v4)), none, none, none, none] [] (wM y q Y) := by
  unfold fX4_cost_j149
  refine g_bipush hX dX4_cost_149 (by decide) (rfl : 149 + 2 = 151) ?_
  refine g_iload hX dX4_cost_151 (rfl : 151 + 2 = 153) rfl ?_
  refine g_isub hX dX4_cost_153 (rfl : 153 + 1 = 154) ?_
  exact g_iret hX dX4_cost_154
set_option maxRecDepth 100000 in
theorem wX4_cost_142 {X : Cx} {D : va_G} {y : ClassId × ClassId × ClassId} {q : Nat → Nat} (hX : OKX X cX4_cost RX4 (rmk 1) (some .int) D y) {k_40 : Int → Int → Int → Int → (St) → Option (Int × (St))} (hk_40 : ∀ (v1 v2 v3 v4 : Int) (Y : St), GF X cX4_cost D (0, 0) (QI X D y (wM y q)) (k_40 v1 v2 v3 v4 Y) 40 [some (.ref (q 0)), some (.int (iz v1)), some (.int (iz v2)), some (.int (iz v3)), some (.int (iz v4)), none, none, none, none] [] (wM y q Y)) (v1 v2 v3 v4 v5 v6 v7 s0 : Int) (Y : St) : GF X cX4_cost D (0, 0) (QI X D y (wM y q)) (fX4_cost_j142 k_40 v1 v2 v3 v4 v5 v6 v7 s0 Y) 142 [some (.ref (q 0)), some (.int (iz v1)), some (.int (iz v2)), some (.int (iz v3)), some (.int (iz v4)), some (.int (iz v5)), some (.int (iz v6)), some (.int (iz v7)), none] [.int (iz s0)] (wM y q Y) := by
  unfold fX4_cost_j142
  refine g_istore (lv' := fun x105 => [some (.ref (q 0)), some (.int (iz v1)), some (.int (iz v2)), some (.int (iz v3)), some (.int (iz v4)), some (.int (iz v5)), some (.int (iz v6)), some (.int (iz v7)), some (.int (iz x105))]) hX dX4_cost_142 (rfl : 142 + 2 = 144) rfl (fun _ => rfl) (fun x105 => ?_)
  refine g_iload hX dX4_cost_144 (rfl : 144 + 2 = 146) rfl ?_
  refine g_if_ne (tgt := 155) hX dX4_cost_146 (by decide) (rfl : 146 + 3 = 149) ?_ ?_
  · refine g_iload hX dX4_cost_155 (rfl : 155 + 2 = 157) rfl ?_
    refine g_if_eq (tgt := 171) hX dX4_cost_157 (by decide) (rfl : 157 + 3 = 160) ?_ ?_
    · refine g_drop (lv' := [some (.ref (q 0)), some (.int (iz v1)), some (.int (iz v2)), some (.int (iz v3)), some (.int (iz v4)), none, some (.int (iz v6)), some (.int (iz v7)), some (.int (iz x105))]) 5 rfl ?_
      refine g_drop (lv' := [some (.ref (q 0)), some (.int (iz v1)), some (.int (iz v2)), some (.int (iz v3)), some (.int (iz v4)), none, some (.int (iz v6)), none, some (.int (iz x105))]) 7 rfl ?_
      refine g_drop (lv' := [some (.ref (q 0)), some (.int (iz v1)), some (.int (iz v2)), some (.int (iz v3)), some (.int (iz v4)), none, some (.int (iz v6)), none, none]) 8 rfl ?_
      exact wX4_cost_171 hX hk_40 v1 v2 v3 v4 v6 Y
    · refine g_aload_n hX dX4_cost_160 (rfl : 160 + 1 = 161) rfl ?_
      refine ge_M_X4_66_M hX dX4_cost_161 (rfl : 161 + 3 = 164) ?_
      refine g_iload hX dX4_cost_164 (rfl : 164 + 2 = 166) rfl ?_
      refine g_iconst hX dX4_cost_166 (rfl : 166 + 1 = 167) ?_
      refine as_M_M_33 hX dX4_cost_167 (rfl : 167 + 1 = 168) (fun Y106 => ?_)
      refine g_iinc (lv' := fun x107 => [some (.ref (q 0)), some (.int (iz v1)), some (.int (iz x107)), some (.int (iz v3)), some (.int (iz v4)), some (.int (iz v5)), some (.int (iz v6)), some (.int (iz v7)), some (.int (iz x105))]) hX dX4_cost_168 (rfl : 168 + 3 = 171) rfl (fun _ => rfl) (fun x107 => ?_)
      refine g_drop (lv' := [some (.ref (q 0)), some (.int (iz v1)), some (.int (iz x107)), some (.int (iz v3)), some (.int (iz v4)), none, some (.int (iz v6)), some (.int (iz v7)), some (.int (iz x105))]) 5 rfl ?_
      refine g_drop (lv' := [some (.ref (q 0)), some (.int (iz v1)), some (.int (iz x107)), some (.int (iz v3)), some (.int (iz v4)), none, some (.int (iz v6)), none, some (.int (iz x105))]) 7 rfl ?_
      refine g_drop (lv' := [some (.ref (q 0)), some (.int (iz v1)), some (.int (iz x107)), some (.int (iz v3)), some (.int (iz v4)), none, some (.int (iz v6)), none, none]) 8 rfl ?_
      exact wX4_cost_171 hX hk_40 v1 x107 v3 v4 v6 Y106
  · refine g_drop (lv' := [some (.ref (q 0)), none, some (.int (iz v2)), some (.int (iz v3)), some (.int (iz v4)), some (.int (iz v5)), some (.int (iz v6)), some (.int (iz v7)), some (.int (iz x105))]) 1 rfl ?_
    refine g_drop (lv' := [some (.ref (q 0)), none, none, some (.int (iz v3)), some (.int (iz v4)), some (.int (iz v5)), some (.int (iz v6)), some (.int (iz v7)), some (.int (iz x105))]) 2 rfl ?_
    refine g_drop (lv' := [some (.ref (q 0)), none, none, none, some (.int (iz v4)), some (.int (iz v5)), some (.int (iz v6)), some (.int (iz v7)), some (.int (iz x105))]) 3 rfl ?_
    refine g_drop (lv' := [some (.ref (q 0)), none, none, none, some (.int (iz v4)), none, some (.int (iz v6)), some (.int (iz v7)), some (.int (iz x105))]) 5 rfl ?_
    refine g_drop (lv' := [some (.ref (q 0)), none, none, none, some (.int (iz v4)), none, none, some (.int (iz v7)), some (.int (iz x105))]) 6 rfl ?_
    refine g_drop (lv' := [some (.ref (q 0)), none, none, none, some (.int (iz v4)), none, none, none, some (.int (iz x105))]) 7 rfl ?_
    refine g_drop (lv' := [some (.ref (q 0)), none, none, none, some (.int (iz v4)), none, none, none, none]) 8 rfl ?_
    exact wX4_cost_149 hX v4 Y
set_option maxRecDepth 100000 in
theorem wX4_cost_127 {X : Cx} {D : va_G} {y : ClassId × ClassId × ClassId} {q : Nat → Nat} (hX : OKX X cX4_cost RX4 (rmk 1) (some .int) D y) {k_40 : Int → Int → Int → Int → (St) → Option (Int × (St))} (hk_40 : ∀ (v1 v2 v3 v4 : Int) (Y : St), GF X cX4_cost D (0, 0) (QI X D y (wM y q)) (k_40 v1 v2 v3 v4 Y) 40 [some (.ref (q 0)), some (.int (iz v1)), some (.int (iz v2)), some (.int (iz v3)), some (.int (iz v4)), none, none, none, none] [] (wM y q Y)) (v1 v2 v3 v4 v5 v6 v7 : Int) (Y : St) : GF X cX4_cost D (0, 0) (QI X D y (wM y q)) (fX4_cost_j127 k_40 v1 v2 v3 v4 v5 v6 v7 Y) 127 [some (.ref (q 0)), some (.int (iz v1)), some (.int (iz v2)), some (.int (iz v3)), some (.int (iz v4)), some (.int (iz v5)), some (.int (iz v6)), some (.int (iz v7)), none] [] (wM y q Y) := by
  unfold fX4_cost_j127
  refine g_iconst hX dX4_cost_127 (rfl : 127 + 1 = 128) ?_
  refine g_goto (pc' := 142) hX dX4_cost_128 (by decide) ?_
  exact wX4_cost_142 hX hk_40 v1 v2 v3 v4 v5 v6 v7 0 Y
set_option maxRecDepth 100000 in
theorem wX4_cost_101 {X : Cx} {D : va_G} {y : ClassId × ClassId × ClassId} {q : Nat → Nat} (hX : OKX X cX4_cost RX4 (rmk 1) (some .int) D y) {k_40 : Int → Int → Int → Int → (St) → Option (Int × (St))} (hk_40 : ∀ (v1 v2 v3 v4 : Int) (Y : St), GF X cX4_cost D (0, 0) (QI X D y (wM y q)) (k_40 v1 v2 v3 v4 Y) 40 [some (.ref (q 0)), some (.int (iz v1)), some (.int (iz v2)), some (.int (iz v3)), some (.int (iz v4)), none, none, none, none] [] (wM y q Y)) (v1 v2 v3 v4 v5 v6 s0 : Int) (Y : St) : GF X cX4_cost D (0, 0) (QI X D y (wM y q)) (fX4_cost_j101 k_40 v1 v2 v3 v4 v5 v6 s0 Y) 101 [some (.ref (q 0)), some (.int (iz v1)), some (.int (iz v2)), some (.int (iz v3)), some (.int (iz v4)), some (.int (iz v5)), some (.int (iz v6)), none, none] [.int (iz s0)] (wM y q Y) := by
  unfold fX4_cost_j101
  refine g_istore (lv' := fun x108 => [some (.ref (q 0)), some (.int (iz v1)), some (.int (iz v2)), some (.int (iz v3)), some (.int (iz v4)), some (.int (iz v5)), some (.int (iz v6)), some (.int (iz x108)), none]) hX dX4_cost_101 (rfl : 101 + 2 = 103) rfl (fun _ => rfl) (fun x108 => ?_)
  refine g_iload hX dX4_cost_103 (rfl : 103 + 2 = 105) rfl ?_
  refine g_if_eq (tgt := 131) hX dX4_cost_105 (by decide) (rfl : 105 + 3 = 108) ?_ ?_
  · refine g_iload hX dX4_cost_131 (rfl : 131 + 2 = 133) rfl ?_
    refine g_iconst hX dX4_cost_133 (rfl : 133 + 1 = 134) ?_
    refine g_icmp_ne (tgt := 141) hX dX4_cost_134 (by decide) (rfl : 134 + 3 = 137) ?_ ?_
    · refine g_iconst hX dX4_cost_141 (rfl : 141 + 1 = 142) ?_
      exact wX4_cost_142 hX hk_40 v1 v2 v3 v4 v5 v6 x108 0 Y
    · refine g_iconst hX dX4_cost_137 (rfl : 137 + 1 = 138) ?_
      refine g_goto (pc' := 142) hX dX4_cost_138 (by decide) ?_
      exact wX4_cost_142 hX hk_40 v1 v2 v3 v4 v5 v6 x108 1 Y
  · refine g_iload hX dX4_cost_108 (rfl : 108 + 2 = 110) rfl ?_
    refine g_if_lt (tgt := 127) hX dX4_cost_110 (by decide) (rfl : 110 + 3 = 113) ?_ ?_
    · exact wX4_cost_127 hX hk_40 v1 v2 v3 v4 v5 v6 x108 Y
    · refine g_aload_n hX dX4_cost_113 (rfl : 113 + 1 = 114) rfl ?_
      refine ge_M_X4_66_M hX dX4_cost_114 (rfl : 114 + 3 = 117) ?_
      refine g_iload hX dX4_cost_117 (rfl : 117 + 2 = 119) rfl ?_
      refine al_M_M_33 hX dX4_cost_119 (rfl : 119 + 1 = 120) ?_
      refine g_if_eq (tgt := 127) hX dX4_cost_120 (by decide) (rfl : 120 + 3 = 123) ?_ ?_
      · exact wX4_cost_127 hX hk_40 v1 v2 v3 v4 v5 v6 x108 Y
      · refine g_iconst hX dX4_cost_123 (rfl : 123 + 1 = 124) ?_
        refine g_goto (pc' := 142) hX dX4_cost_124 (by decide) ?_
        exact wX4_cost_142 hX hk_40 v1 v2 v3 v4 v5 v6 x108 1 Y
set_option maxRecDepth 100000 in
theorem wX4_cost_100 {X : Cx} {D : va_G} {y : ClassId × ClassId × ClassId} {q : Nat → Nat} (hX : OKX X cX4_cost RX4 (rmk 1) (some .int) D y) {k_40 : Int → Int → Int → Int → (St) → Option (Int × (St))} (hk_40 : ∀ (v1 v2 v3 v4 : Int) (Y : St), GF X cX4_cost D (0, 0) (QI X D y (wM y q)) (k_40 v1 v2 v3 v4 Y) 40 [some (.ref (q 0)), some (.int (iz v1)), some (.int (iz v2)), some (.int (iz v3)), some (.int (iz v4)), none, none, none, none] [] (wM y q Y)) (v1 v2 v3 v4 v5 v6 : Int) (Y : St) : GF X cX4_cost D (0, 0) (QI X D y (wM y q)) (fX4_cost_j100 k_40 v1 v2 v3 v4 v5 v6 Y) 100 [some (.ref (q 0)), some (.int (iz v1)), some (.int (iz v2)), some (.int (iz v3)), some (.int (iz v4)), some (.int (iz v5)), some (.int (iz v6)), none, none] [] (wM y q Y) := by
  unfold fX4_cost_j100
  refine g_iconst hX dX4_cost_100 (rfl : 100 + 1 = 101) ?_
  exact wX4_cost_101 hX hk_40 v1 v2 v3 v4 v5 v6 0 Y
set_option maxRecDepth 100000 in
theorem wX4_cost_70 {X : Cx} {D : va_G} {y : ClassId × ClassId × ClassId} {q : Nat → Nat} (hX : OKX X cX4_cost RX4 (rmk 1) (some .int) D y) {k_40 : Int → Int → Int → Int → (St) → Option (Int × (St))} (hk_40 : ∀ (v1 v2 v3 v4 : Int) (Y : St), GF X cX4_cost D (0, 0) (QI X D y (wM y q)) (k_40 v1 v2 v3 v4 Y) 40 [some (.ref (q 0)), some (.int (iz v1)), some (.int (iz v2)), some (.int (iz v3)), some (.int (iz v4)), none, none, none, none] [] (wM y q Y)) (v1 v2 v3 v4 s0 : Int) (Y : St) : GF X cX4_cost D (0, 0) (QI X D y (wM y q)) (fX4_cost_j70 k_40 v1 v2 v3 v4 s0 Y) 70 [some (.ref (q 0)), some (.int (iz v1)), some (.int (iz v2)), some (.int (iz v3)), some (.int (iz v4)), none, none, none, none] [.int (iz s0)] (wM y q Y) := by
  unfold fX4_cost_j70
  refine g_istore (lv' := fun x109 => [some (.ref (q 0)), some (.int (iz v1)), some (.int (iz v2)), some (.int (iz v3)), some (.int (iz v4)), some (.int (iz x109)), none, none, none]) hX dX4_cost_70 (rfl : 70 + 2 = 72) rfl (fun _ => rfl) (fun x109 => ?_)
  refine g_aload_n hX dX4_cost_72 (rfl : 72 + 1 = 73) rfl ?_
  refine ge_M_X4_66_M hX dX4_cost_73 (rfl : 73 + 3 = 76) ?_
  refine g_aload_n hX dX4_cost_76 (rfl : 76 + 1 = 77) rfl ?_
  refine ge_M_X4_13_M hX dX4_cost_77 (rfl : 77 + 3 = 80) ?_
  refine g_iload hX dX4_cost_80 (rfl : 80 + 2 = 82) rfl ?_
  refine al_M_M_1 hX dX4_cost_82 (rfl : 82 + 1 = 83) ?_
  refine al_M_M_33 hX dX4_cost_83 (rfl : 83 + 1 = 84) ?_
  refine g_istore (lv' := fun x110 => [some (.ref (q 0)), some (.int (iz v1)), some (.int (iz v2)), some (.int (iz v3)), some (.int (iz v4)), some (.int (iz x109)), some (.int (iz x110)), none, none]) hX dX4_cost_84 (rfl : 84 + 2 = 86) rfl (fun _ => rfl) (fun x110 => ?_)
  refine g_iload hX dX4_cost_86 (rfl : 86 + 2 = 88) rfl ?_
  refine g_if_ne (tgt := 100) hX dX4_cost_88 (by decide) (rfl : 88 + 3 = 91) ?_ ?_
  · exact wX4_cost_100 hX hk_40 v1 v2 v3 v4 x109 x110 Y
  · refine g_iload_n hX dX4_cost_91 (rfl : 91 + 1 = 92) rfl ?_
    refine g_iload_n hX dX4_cost_92 (rfl : 92 + 1 = 93) rfl ?_
    refine g_icmp_ne (tgt := 100) hX dX4_cost_93 (by decide) (rfl : 93 + 3 = 96) ?_ ?_
    · exact wX4_cost_100 hX hk_40 v1 v2 v3 v4 x109 x110 Y
    · refine g_iconst hX dX4_cost_96 (rfl : 96 + 1 = 97) ?_
      refine g_goto (pc' := 101) hX dX4_cost_97 (by decide) ?_
      exact wX4_cost_101 hX hk_40 v1 v2 v3 v4 x109 x110 1 Y
set_option maxRecDepth 100000 in
theorem wX4_cost_40 {X : Cx} {D : va_G} {y : ClassId × ClassId × ClassId} {q : Nat → Nat} (hX : OKX X cX4_cost RX4 (rmk 1) (some .int) D y) : ∀ (n : Nat) (v1 v2 v3 v4 : Int) (Y : St), GF X cX4_cost D (0, 0) (QI X D y (wM y q)) (fX4_cost_l40 n v1 v2 v3 v4 Y) 40 [some (.ref (q 0)), some (.int (iz v1)), some (.int (iz v2)), some (.int (iz v3)), some (.int (iz v4)), none, none, none, none] [] (wM y q Y) := by
  intro n
  induction n with
  | zero => intro v1 v2 v3 v4 Y; exact g_none
  | succ n hk_40 =>
    intro v1 v2 v3 v4 Y
    unfold fX4_cost_l40
    refine g_iload hX dX4_cost_40 (rfl : 40 + 2 = 42) rfl ?_
    refine g_aload_n hX dX4_cost_42 (rfl : 42 + 1 = 43) rfl ?_
    refine ge_M_X4_73_M hX dX4_cost_43 (rfl : 43 + 3 = 46) ?_
    refine g_icmp_ge (tgt := 213) hX dX4_cost_46 (by decide) (rfl : 46 + 3 = 49) ?_ ?_
    · refine g_drop (lv' := [some (.ref (q 0)), none, some (.int (iz v2)), some (.int (iz v3)), some (.int (iz v4)), none, none, none, none]) 1 rfl ?_
      refine g_drop (lv' := [some (.ref (q 0)), none, none, some (.int (iz v3)), some (.int (iz v4)), none, none, none, none]) 2 rfl ?_
      refine g_drop (lv' := [some (.ref (q 0)), none, none, some (.int (iz v3)), none, none, none, none, none]) 4 rfl ?_
      exact wX4_cost_213 hX v3 Y
    · refine g_iload hX dX4_cost_49 (rfl : 49 + 2 = 51) rfl ?_
      refine g_aload_n hX dX4_cost_51 (rfl : 51 + 1 = 52) rfl ?_
      refine ge_M_X4_97_M hX dX4_cost_52 (rfl : 52 + 3 = 55) ?_
      refine g_icmp_ge (tgt := 68) hX dX4_cost_55 (by decide) (rfl : 55 + 3 = 58) ?_ ?_
      · refine g_bipush hX dX4_cost_68 (by decide) (rfl : 68 + 2 = 70) ?_
        exact wX4_cost_70 hX hk_40 v1 v2 v3 v4 ((-2)) Y
      · refine g_aload_n hX dX4_cost_58 (rfl : 58 + 1 = 59) rfl ?_
        refine ge_M_X4_22_M hX dX4_cost_59 (rfl : 59 + 3 = 62) ?_
        refine g_iload hX dX4_cost_62 (rfl : 62 + 2 = 64) rfl ?_
        refine al_M_M_8 hX dX4_cost_64 (rfl : 64 + 1 = 65) ?_
        refine g_goto (pc' := 70) hX dX4_cost_65 (by decide) ?_
        exact wX4_cost_70 hX hk_40 v1 v2 v3 v4 ((Y.2 8 (Int.toNat v4))) Y
set_option maxRecDepth 100000 in
theorem wX4_cost_14 {X : Cx} {D : va_G} {y : ClassId × ClassId × ClassId} {q : Nat → Nat} (hX : OKX X cX4_cost RX4 (rmk 1) (some .int) D y) : ∀ (n : Nat) (v1 v2 : Int) (Y : St), GF X cX4_cost D (0, 0) (QI X D y (wM y q)) (fX4_cost_l14 n v1 v2 Y) 14 [some (.ref (q 0)), some (.int (iz v1)), some (.int (iz v2)), none, none, none, none, none, none] [] (wM y q Y) := by
  intro n
  induction n with
  | zero => intro v1 v2 Y; exact g_none
  | succ n hk_14 =>
    intro v1 v2 Y
    unfold fX4_cost_l14
    refine g_iload_n hX dX4_cost_14 (rfl : 14 + 1 = 15) rfl ?_
    refine g_bipush hX dX4_cost_15 (by decide) (rfl : 15 + 2 = 17) ?_
    refine g_icmp_ge (tgt := 33) hX dX4_cost_17 (by decide) (rfl : 17 + 3 = 20) ?_ ?_
    · refine g_iconst hX dX4_cost_33 (rfl : 33 + 1 = 34) ?_
      refine g_istore_n (lv' := fun x111 => [some (.ref (q 0)), some (.int (iz v1)), some (.int (iz x111)), none, none, none, none, none, none]) hX dX4_cost_34 (rfl : 34 + 1 = 35) rfl (fun _ => rfl) (fun x111 => ?_)
      refine g_iconst hX dX4_cost_35 (rfl : 35 + 1 = 36) ?_
      refine g_istore_n (lv' := fun x112 => [some (.ref (q 0)), some (.int (iz v1)), some (.int (iz x111)), some (.int (iz x112)), none, none, none, none, none]) hX dX4_cost_36 (rfl : 36 + 1 = 37) rfl (fun _ => rfl) (fun x112 => ?_)
      refine g_iconst hX dX4_cost_37 (rfl : 37 + 1 = 38) ?_
      refine g_istore (lv' := fun x113 => [some (.ref (q 0)), some (.int (iz v1)), some (.int (iz x111)), some (.int (iz x112)), some (.int (iz x113)), none, none, none, none]) hX dX4_cost_38 (rfl : 38 + 2 = 40) rfl (fun _ => rfl) (fun x113 => ?_)
      exact wX4_cost_40 hX FU v1 x111 x112 x113 Y
    · refine g_aload_n hX dX4_cost_20 (rfl : 20 + 1 = 21) rfl ?_
      refine ge_M_X4_66_M hX dX4_cost_21 (rfl : 21 + 3 = 24) ?_
      refine g_iload_n hX dX4_cost_24 (rfl : 24 + 1 = 25) rfl ?_
      refine g_iconst hX dX4_cost_25 (rfl : 25 + 1 = 26) ?_
      refine as_M_M_33 hX dX4_cost_26 (rfl : 26 + 1 = 27) (fun Y114 => ?_)
      refine g_iinc (lv' := fun x115 => [some (.ref (q 0)), some (.int (iz v1)), some (.int (iz x115)), none, none, none, none, none, none]) hX dX4_cost_27 (rfl : 27 + 3 = 30) rfl (fun _ => rfl) (fun x115 => ?_)
      refine g_goto (pc' := 14) hX dX4_cost_30 (by decide) ?_
      exact hk_14 v1 x115 Y114
set_option maxRecDepth 100000 in
theorem kX4_cost (l : Launch) (D : va_G) (y : ClassId × ClassId × ClassId) (q : Nat → Nat) (Y : St) (a0 : Int) : CtI l D y yX4_cost cX4_cost 9 (some .int) (rmk 1) [.ref (q 0), .int (iz a0)] (wM y q) Y (fX4_cost Y a0) := by
  refine ctI_of (own := RX4) rfl (by decide) (cat1 rfl) rfl (fun X hl hX => ?_)
  subst hl
  show GF X cX4_cost D (0, 0) (QI X D y (wM y q)) (fX4_cost Y a0) 0 [some (.ref (q 0)), some (.int (iz a0)), none, none, none, none, none, none, none] [] (wM y q Y)
  unfold fX4_cost
  refine g_iload_n hX dX4_cost_0 (rfl : 0 + 1 = 1) rfl ?_
  refine g_iconst hX dX4_cost_1 (rfl : 1 + 1 = 2) ?_
  refine g_bipush hX dX4_cost_2 (by decide) (rfl : 2 + 2 = 4) ?_
  refine g_callp hX (kX4_in _ _ _ _ _ _) mw_X4_69 (by decide) rfl rfl (Nat.le_of_ble_eq_true rfl) dX4_cost_4 (rfl : 4 + 3 = 7) (fun r1 => ?_)
  refine g_if_ne (tgt := 12) hX dX4_cost_7 (by decide) (rfl : 7 + 3 = 10) ?_ ?_
  · refine g_iconst hX dX4_cost_12 (rfl : 12 + 1 = 13) ?_
    refine g_istore_n (lv' := fun x2 => [some (.ref (q 0)), some (.int (iz a0)), some (.int (iz x2)), none, none, none, none, none, none]) hX dX4_cost_13 (rfl : 13 + 1 = 14) rfl (fun _ => rfl) (fun x2 => ?_)
    exact wX4_cost_14 hX FU a0 x2 Y
  · refine g_iconst hX dX4_cost_10 (rfl : 10 + 1 = 11) ?_
    exact g_iret hX dX4_cost_11
set_option maxRecDepth 100000 in
theorem wX4_check_92 {X : Cx} {D : va_G} {y : ClassId × ClassId × ClassId} {q : Nat → Nat} (hX : OKX X cX4_check RX4 (rmk 5) (some .int) D y) (s0 : Int) (Y : St) : GF X cX4_check D (0, 0) (QI X D y (wM y q)) (fX4_check_j92 s0 Y) 92 [some (.ref (q 0)), none, none, none] [.int (iz s0)] (wM y q Y) := by
  unfold fX4_check_j92
  exact g_iret hX dX4_check_92
set_option maxRecDepth 100000 in
theorem wX4_check_73 {X : Cx} {D : va_G} {y : ClassId × ClassId × ClassId} {q : Nat → Nat} (hX : OKX X cX4_check RX4 (rmk 5) (some .int) D y) (Y : St) : GF X cX4_check D (0, 0) (QI X D y (wM y q)) (fX4_check_j73  Y) 73 [some (.ref (q 0)), none, none, none] [] (wM y q Y) := by
  unfold fX4_check_j73
  refine g_aload_n hX dX4_check_73 (rfl : 73 + 1 = 74) rfl ?_
  refine ge_M_X4_97_M hX dX4_check_74 (rfl : 74 + 3 = 77) ?_
  refine g_aload_n hX dX4_check_77 (rfl : 77 + 1 = 78) rfl ?_
  refine ge_M_X4_73_M hX dX4_check_78 (rfl : 78 + 3 = 81) ?_
  refine g_icmp_le (tgt := 91) hX dX4_check_81 (by decide) (rfl : 81 + 3 = 84) ?_ ?_
  · refine g_iconst hX dX4_check_91 (rfl : 91 + 1 = 92) ?_
    exact wX4_check_92 hX ((-1)) Y
  · refine g_aload_n hX dX4_check_84 (rfl : 84 + 1 = 85) rfl ?_
    refine ge_M_X4_73_M hX dX4_check_85 (rfl : 85 + 3 = 88) ?_
    refine g_goto (pc' := 92) hX dX4_check_88 (by decide) ?_
    exact wX4_check_92 hX ((Y.1 2)) Y
set_option maxRecDepth 100000 in
theorem wX4_check_65 {X : Cx} {D : va_G} {y : ClassId × ClassId × ClassId} {q : Nat → Nat} (hX : OKX X cX4_check RX4 (rmk 5) (some .int) D y) (v3 : Int) (Y : St) : GF X cX4_check D (0, 0) (QI X D y (wM y q)) (fX4_check_j65 v3 Y) 65 [some (.ref (q 0)), none, none, some (.int (iz v3))] [] (wM y q Y) := by
  unfold fX4_check_j65
  refine g_iload_n hX dX4_check_65 (rfl : 65 + 1 = 66) rfl ?_
  exact g_iret hX dX4_check_66
set_option maxRecDepth 100000 in
theorem wX4_check_31 {X : Cx} {D : va_G} {y : ClassId × ClassId × ClassId} {q : Nat → Nat} (hX : OKX X cX4_check RX4 (rmk 5) (some .int) D y) : ∀ (n : Nat) (v3 : Int) (Y : St), GF X cX4_check D (0, 0) (QI X D y (wM y q)) (fX4_check_l31 n v3 Y) 31 [some (.ref (q 0)), none, none, some (.int (iz v3))] [] (wM y q Y) := by
  intro n
  induction n with
  | zero => intro v3 Y; exact g_none
  | succ n hk_31 =>
    intro v3 Y
    unfold fX4_check_l31
    refine g_iload_n hX dX4_check_31 (rfl : 31 + 1 = 32) rfl ?_
    refine g_aload_n hX dX4_check_32 (rfl : 32 + 1 = 33) rfl ?_
    refine ge_M_X4_73_M hX dX4_check_33 (rfl : 33 + 3 = 36) ?_
    refine g_icmp_ge (tgt := 73) hX dX4_check_36 (by decide) (rfl : 36 + 3 = 39) ?_ ?_
    · refine g_drop (lv' := [some (.ref (q 0)), none, none, none]) 3 rfl ?_
      exact wX4_check_73 hX  Y
    · refine g_aload_n hX dX4_check_39 (rfl : 39 + 1 = 40) rfl ?_
      refine g_iload_n hX dX4_check_40 (rfl : 40 + 1 = 41) rfl ?_
      refine cv_MM hX (kX4_serveOne _ _ _ (q) _ _) mw_X4_187 (by decide) rfl rfl (Nat.le_of_ble_eq_true rfl) dX4_check_41 (rfl : 41 + 3 = 44) (fun Y101 => ?_)
      refine g_iload_n hX dX4_check_44 (rfl : 44 + 1 = 45) rfl ?_
      refine g_aload_n hX dX4_check_45 (rfl : 45 + 1 = 46) rfl ?_
      refine ge_M_X4_97_M hX dX4_check_46 (rfl : 46 + 3 = 49) ?_
      refine g_icmp_ge (tgt := 65) hX dX4_check_49 (by decide) (rfl : 49 + 3 = 52) ?_ ?_
      · exact wX4_check_65 hX v3 Y101
      · refine g_aload_n hX dX4_check_52 (rfl : 52 + 1 = 53) rfl ?_
        refine ge_M_X4_22_M hX dX4_check_53 (rfl : 53 + 3 = 56) ?_
        refine g_iload_n hX dX4_check_56 (rfl : 56 + 1 = 57) rfl ?_
        refine al_M_M_8 hX dX4_check_57 (rfl : 57 + 1 = 58) ?_
        refine g_aload_n hX dX4_check_58 (rfl : 58 + 1 = 59) rfl ?_
        refine ge_M_X4_168_M hX dX4_check_59 (rfl : 59 + 3 = 62) ?_
        refine g_icmp_eq (tgt := 67) hX dX4_check_62 (by decide) (rfl : 62 + 3 = 65) ?_ ?_
        · refine g_iinc (lv' := fun x102 => [some (.ref (q 0)), none, none, some (.int (iz x102))]) hX dX4_check_67 (rfl : 67 + 3 = 70) rfl (fun _ => rfl) (fun x102 => ?_)
          refine g_goto (pc' := 31) hX dX4_check_70 (by decide) ?_
          exact hk_31 x102 Y101
        · exact wX4_check_65 hX v3 Y101
set_option maxRecDepth 100000 in
theorem wX4_check_20 {X : Cx} {D : va_G} {y : ClassId × ClassId × ClassId} {q : Nat → Nat} (hX : OKX X cX4_check RX4 (rmk 5) (some .int) D y) (Y : St) : GF X cX4_check D (0, 0) (QI X D y (wM y q)) (fX4_check_j20  Y) 20 [some (.ref (q 0)), none, none, none] [] (wM y q Y) := by
  unfold fX4_check_j20
  refine g_bipush hX dX4_check_20 (by decide) (rfl : 20 + 2 = 22) ?_
  exact g_iret hX dX4_check_22
set_option maxRecDepth 100000 in
theorem kX4_check (l : Launch) (D : va_G) (y : ClassId × ClassId × ClassId) (q : Nat → Nat) (Y : St) (a0 a1 : Int) : CtI l D y yX4_check cX4_check 4 (some .int) (rmk 5) [.ref (q 0), .int (iz a0), .int (iz a1)] (wM y q) Y (fX4_check Y a0 a1) := by
  refine ctI_of (own := RX4) rfl (by decide) (cat1 rfl) rfl (fun X hl hX => ?_)
  subst hl
  show GF X cX4_check D (0, 0) (QI X D y (wM y q)) (fX4_check Y a0 a1) 0 [some (.ref (q 0)), some (.int (iz a0)), some (.int (iz a1)), none] [] (wM y q Y)
  unfold fX4_check
  refine g_iload_n hX dX4_check_0 (rfl : 0 + 1 = 1) rfl ?_
  refine g_iconst hX dX4_check_1 (rfl : 1 + 1 = 2) ?_
  refine g_bipush hX dX4_check_2 (by decide) (rfl : 2 + 2 = 4) ?_
  refine g_callp hX (kX4_in _ _ _ _ _ _) mw_X4_69 (by decide) rfl rfl (Nat.le_of_ble_eq_true rfl) dX4_check_4 (rfl : 4 + 3 = 7) (fun r1 => ?_)
  refine g_if_eq (tgt := 20) hX dX4_check_7 (by decide) (rfl : 7 + 3 = 10) ?_ ?_
  · refine g_drop (lv' := [some (.ref (q 0)), none, some (.int (iz a1)), none]) 1 rfl ?_
    refine g_drop (lv' := [some (.ref (q 0)), none, none, none]) 2 rfl ?_
    exact wX4_check_20 hX  Y
  · refine g_iload_n hX dX4_check_10 (rfl : 10 + 1 = 11) rfl ?_
    refine g_iconst hX dX4_check_11 (rfl : 11 + 1 = 12) ?_
    refine g_bipush hX dX4_check_12 (by decide) (rfl : 12 + 2 = 14) ?_
    refine g_callp hX (kX4_in _ _ _ _ _ _) mw_X4_69 (by decide) rfl rfl (Nat.le_of_ble_eq_true rfl) dX4_check_14 (rfl : 14 + 3 = 17) (fun r2 => ?_)
    refine g_if_ne (tgt := 23) hX dX4_check_17 (by decide) (rfl : 17 + 3 = 20) ?_ ?_
    · refine g_aload_n hX dX4_check_23 (rfl : 23 + 1 = 24) rfl ?_
      refine g_iload_n hX dX4_check_24 (rfl : 24 + 1 = 25) rfl ?_
      refine g_iload_n hX dX4_check_25 (rfl : 25 + 1 = 26) rfl ?_
      refine cv_MM hX (kX4_begin _ _ _ (q) _ _ _) mw_X4_184 (by decide) rfl rfl (Nat.le_of_ble_eq_true rfl) dX4_check_26 (rfl : 26 + 3 = 29) (fun Y3 => ?_)
      refine g_iconst hX dX4_check_29 (rfl : 29 + 1 = 30) ?_
      refine g_istore_n (lv' := fun x4 => [some (.ref (q 0)), some (.int (iz a0)), some (.int (iz a1)), some (.int (iz x4))]) hX dX4_check_30 (rfl : 30 + 1 = 31) rfl (fun _ => rfl) (fun x4 => ?_)
      refine g_drop (lv' := [some (.ref (q 0)), none, some (.int (iz a1)), some (.int (iz x4))]) 1 rfl ?_
      refine g_drop (lv' := [some (.ref (q 0)), none, none, some (.int (iz x4))]) 2 rfl ?_
      exact wX4_check_31 hX FU x4 Y3
    · refine g_drop (lv' := [some (.ref (q 0)), none, some (.int (iz a1)), none]) 1 rfl ?_
      refine g_drop (lv' := [some (.ref (q 0)), none, none, none]) 2 rfl ?_
      exact wX4_check_20 hX  Y
