set_option maxRecDepth 100000 in
theorem wX1_bits_29 {X : Cx} {D : va_G} {y : ClassId × ClassId × ClassId} {q : Nat → Nat} (hX : OKX X cX1_bits RX1 (rmk 0) (some .int) D y) (v1 : Int) (Y : St) : GF X cX1_bits D (0, 0) (QI X D y (wR y q)) (fX1_bits_j29 v1 Y) 29 [some (.ref (q 0)), some (.int (iz v1)), none] [] (wR y q Y) := by
  unfold fX1_bits_j29
  refine g_iload_n hX dX1_bits_29 (rfl : 29 + 1 = 30) rfl ?_
  exact g_iret hX dX1_bits_30
set_option maxRecDepth 100000 in
theorem wX1_bits_4 {X : Cx} {D : va_G} {y : ClassId × ClassId × ClassId} {q : Nat → Nat} (hX : OKX X cX1_bits RX1 (rmk 0) (some .int) D y) : ∀ (n : Nat) (v1 v2 : Int) (Y : St), GF X cX1_bits D (0, 0) (QI X D y (wR y q)) (fX1_bits_l4 n v1 v2 Y) 4 [some (.ref (q 0)), some (.int (iz v1)), some (.int (iz v2))] [] (wR y q Y) := by
  intro n
  induction n with
  | zero => intro v1 v2 Y; exact g_none
  | succ n hk_4 =>
    intro v1 v2 Y
    unfold fX1_bits_l4
    refine g_iload_n hX dX1_bits_4 (rfl : 4 + 1 = 5) rfl ?_
    refine g_aload_n hX dX1_bits_5 (rfl : 5 + 1 = 6) rfl ?_
    refine ge_R_X1_30_R hX dX1_bits_6 (rfl : 6 + 3 = 9) ?_
    refine g_icmp_ge (tgt := 29) hX dX1_bits_9 (by decide) (rfl : 9 + 3 = 12) ?_ ?_
    · refine g_drop (lv' := [some (.ref (q 0)), some (.int (iz v1)), none]) 2 rfl ?_
      exact wX1_bits_29 hX v1 Y
    · refine g_iload_n hX dX1_bits_12 (rfl : 12 + 1 = 13) rfl ?_
      refine g_iconst hX dX1_bits_13 (rfl : 13 + 1 = 14) ?_
      refine g_aload_n hX dX1_bits_14 (rfl : 14 + 1 = 15) rfl ?_
      refine ge_R_X1_9_R hX dX1_bits_15 (rfl : 15 + 3 = 18) ?_
      refine g_iload_n hX dX1_bits_18 (rfl : 18 + 1 = 19) rfl ?_
      refine al_R_R_0 hX dX1_bits_19 (rfl : 19 + 1 = 20) ?_
      refine g_ishl hX dX1_bits_20 (rfl : 20 + 1 = 21) ?_
      refine g_ior hX dX1_bits_21 (rfl : 21 + 1 = 22) ?_
      refine g_istore_n (lv' := fun x101 => [some (.ref (q 0)), some (.int (iz x101)), some (.int (iz v2))]) hX dX1_bits_22 (rfl : 22 + 1 = 23) rfl (fun _ => rfl) (fun x101 => ?_)
      refine g_iinc (lv' := fun x102 => [some (.ref (q 0)), some (.int (iz x101)), some (.int (iz x102))]) hX dX1_bits_23 (rfl : 23 + 3 = 26) rfl (fun _ => rfl) (fun x102 => ?_)
      refine g_goto (pc' := 4) hX dX1_bits_26 (by decide) ?_
      exact hk_4 x101 x102 Y
set_option maxRecDepth 100000 in
theorem kX1_bits (l : Launch) (D : va_G) (y : ClassId × ClassId × ClassId) (q : Nat → Nat) (Y : St) : CtI l D y yX1_bits cX1_bits 3 (some .int) (rmk 0) [.ref (q 0)] (wR y q) Y (fX1_bits Y) := by
  refine ctI_of (own := RX1) rfl (by decide) (cat1 rfl) rfl (fun X hl hX => ?_)
  subst hl
  show GF X cX1_bits D (0, 0) (QI X D y (wR y q)) (fX1_bits Y) 0 [some (.ref (q 0)), none, none] [] (wR y q Y)
  unfold fX1_bits
  refine g_iconst hX dX1_bits_0 (rfl : 0 + 1 = 1) ?_
  refine g_istore_n (lv' := fun x1 => [some (.ref (q 0)), some (.int (iz x1)), none]) hX dX1_bits_1 (rfl : 1 + 1 = 2) rfl (fun _ => rfl) (fun x1 => ?_)
  refine g_iconst hX dX1_bits_2 (rfl : 2 + 1 = 3) ?_
  refine g_istore_n (lv' := fun x2 => [some (.ref (q 0)), some (.int (iz x1)), some (.int (iz x2))]) hX dX1_bits_3 (rfl : 3 + 1 = 4) rfl (fun _ => rfl) (fun x2 => ?_)
  exact wX1_bits_4 hX FU x1 x2 Y
set_option maxRecDepth 100000 in
theorem kX1_priceAt (l : Launch) (D : va_G) (y : ClassId × ClassId × ClassId) (q : Nat → Nat) (Y : St) (a0 : Int) : CtI l D y yX1_priceAt cX1_priceAt 2 (some .int) (rmk 0) [.ref (q 0), .int (iz a0)] (wR y q) Y (fX1_priceAt Y a0) := by
  refine ctI_of (own := RX1) rfl (by decide) (cat1 rfl) rfl (fun X hl hX => ?_)
  subst hl
  show GF X cX1_priceAt D (0, 0) (QI X D y (wR y q)) (fX1_priceAt Y a0) 0 [some (.ref (q 0)), some (.int (iz a0))] [] (wR y q Y)
  unfold fX1_priceAt
  refine g_aload_n hX dX1_priceAt_0 (rfl : 0 + 1 = 1) rfl ?_
  refine ge_R_X1_15_R hX dX1_priceAt_1 (rfl : 1 + 3 = 4) ?_
  refine g_aload_n hX dX1_priceAt_4 (rfl : 4 + 1 = 5) rfl ?_
  refine ge_R_X1_9_R hX dX1_priceAt_5 (rfl : 5 + 3 = 8) ?_
  refine g_iload_n hX dX1_priceAt_8 (rfl : 8 + 1 = 9) rfl ?_
  refine al_R_R_0 hX dX1_priceAt_9 (rfl : 9 + 1 = 10) ?_
  refine al_R_R_1 hX dX1_priceAt_10 (rfl : 10 + 1 = 11) ?_
  exact g_iret hX dX1_priceAt_11
set_option maxRecDepth 100000 in
theorem wX1_has_17 {X : Cx} {D : va_G} {y : ClassId × ClassId × ClassId} {q : Nat → Nat} (hX : OKX X cX1_has RX1 (rmk 0) (some .boolean) D y) (s0 : Int) (Y : St) : GF X cX1_has D (0, 0) (QI X D y (wR y q)) (fX1_has_j17 s0 Y) 17 [some (.ref (q 0)), none] [.int (iz s0)] (wR y q Y) := by
  unfold fX1_has_j17
  exact g_zret hX dX1_has_17
set_option maxRecDepth 100000 in
theorem wX1_has_16 {X : Cx} {D : va_G} {y : ClassId × ClassId × ClassId} {q : Nat → Nat} (hX : OKX X cX1_has RX1 (rmk 0) (some .boolean) D y) (Y : St) : GF X cX1_has D (0, 0) (QI X D y (wR y q)) (fX1_has_j16  Y) 16 [some (.ref (q 0)), none] [] (wR y q Y) := by
  unfold fX1_has_j16
  refine g_iconst hX dX1_has_16 (rfl : 16 + 1 = 17) ?_
  exact wX1_has_17 hX 0 Y
set_option maxRecDepth 100000 in
theorem kX1_has (l : Launch) (D : va_G) (y : ClassId × ClassId × ClassId) (q : Nat → Nat) (Y : St) (a0 : Int) : CtI l D y yX1_has cX1_has 2 (some .boolean) (rmk 0) [.ref (q 0), .int (iz a0)] (wR y q) Y (fX1_has Y a0) := by
  refine ctI_of (own := RX1) rfl (by decide) (cat1 rfl) rfl (fun X hl hX => ?_)
  subst hl
  show GF X cX1_has D (0, 0) (QI X D y (wR y q)) (fX1_has Y a0) 0 [some (.ref (q 0)), some (.int (iz a0))] [] (wR y q Y)
  unfold fX1_has
  refine g_iload_n hX dX1_has_0 (rfl : 0 + 1 = 1) rfl ?_
  refine g_if_lt (tgt := 16) hX dX1_has_1 (by decide) (rfl : 1 + 3 = 4) ?_ ?_
  · refine g_drop (lv' := [some (.ref (q 0)), none]) 1 rfl ?_
    exact wX1_has_16 hX  Y
  · refine g_iload_n hX dX1_has_4 (rfl : 4 + 1 = 5) rfl ?_
    refine g_aload_n hX dX1_has_5 (rfl : 5 + 1 = 6) rfl ?_
    refine ge_R_X1_30_R hX dX1_has_6 (rfl : 6 + 3 = 9) ?_
    refine g_icmp_ge (tgt := 16) hX dX1_has_9 (by decide) (rfl : 9 + 3 = 12) ?_ ?_
    · refine g_drop (lv' := [some (.ref (q 0)), none]) 1 rfl ?_
      exact wX1_has_16 hX  Y
    · refine g_iconst hX dX1_has_12 (rfl : 12 + 1 = 13) ?_
      refine g_goto (pc' := 17) hX dX1_has_13 (by decide) ?_
      refine g_drop (lv' := [some (.ref (q 0)), none]) 1 rfl ?_
      exact wX1_has_17 hX 1 Y
set_option maxRecDepth 100000 in
theorem wX1_append_30 {X : Cx} {D : va_G} {y : ClassId × ClassId × ClassId} {q : Nat → Nat} (hX : OKX X cX1_append RX1 (rmk 0) none D y) (Y : St) : GF X cX1_append D (0, 0) (QV X D y (wR y q)) (fX1_append_j30  Y) 30 [some (.ref (q 0)), none] [] (wR y q Y) := by
  unfold fX1_append_j30
  exact g_vret hX dX1_append_30
set_option maxRecDepth 100000 in
theorem kX1_append (l : Launch) (D : va_G) (y : ClassId × ClassId × ClassId) (q : Nat → Nat) (Y : St) (a0 : Int) : CtV l D y yX1_append cX1_append 2 (rmk 0) [.ref (q 0), .int (iz a0)] (wR y q) Y (fX1_append Y a0) := by
  refine ctV_of (own := RX1) rfl (by decide) (cat1 rfl) rfl (fun X hl hX => ?_)
  subst hl
  show GF X cX1_append D (0, 0) (QV X D y (wR y q)) (fX1_append Y a0) 0 [some (.ref (q 0)), some (.int (iz a0))] [] (wR y q Y)
  unfold fX1_append
  refine g_aload_n hX dX1_append_0 (rfl : 0 + 1 = 1) rfl ?_
  refine ge_R_X1_30_R hX dX1_append_1 (rfl : 1 + 3 = 4) ?_
  refine g_sipush hX dX1_append_4 (by decide) (rfl : 4 + 3 = 7) ?_
  refine g_icmp_ge (tgt := 30) hX dX1_append_7 (by decide) (rfl : 7 + 3 = 10) ?_ ?_
  · refine g_drop (lv' := [some (.ref (q 0)), none]) 1 rfl ?_
    exact wX1_append_30 hX  Y
  · refine g_aload_n hX dX1_append_10 (rfl : 10 + 1 = 11) rfl ?_
    refine ge_R_X1_9_R hX dX1_append_11 (rfl : 11 + 3 = 14) ?_
    refine g_aload_n hX dX1_append_14 (rfl : 14 + 1 = 15) rfl ?_
    refine ge_R_X1_30_R hX dX1_append_15 (rfl : 15 + 3 = 18) ?_
    refine g_iload_n hX dX1_append_18 (rfl : 18 + 1 = 19) rfl ?_
    refine as_R_R_0 hX dX1_append_19 (rfl : 19 + 1 = 20) (fun Y1 => ?_)
    refine g_aload_n hX dX1_append_20 (rfl : 20 + 1 = 21) rfl ?_
    refine g_dup hX dX1_append_21 rfl (rfl : 21 + 1 = 22) ?_
    refine ge_R_X1_30_R hX dX1_append_22 (rfl : 22 + 3 = 25) ?_
    refine g_iconst hX dX1_append_25 (rfl : 25 + 1 = 26) ?_
    refine g_iadd hX dX1_append_26 (rfl : 26 + 1 = 27) ?_
    refine pu_R_X1_30_R hX dX1_append_27 (rfl : 27 + 3 = 30) (fun Y2 => ?_)
    refine g_drop (lv' := [some (.ref (q 0)), none]) 1 rfl ?_
    exact wX1_append_30 hX  Y2
set_option maxRecDepth 100000 in
theorem wX1_priceOfAll_26 {X : Cx} {D : va_G} {y : ClassId × ClassId × ClassId} {q : Nat → Nat} (hX : OKX X cX1_priceOfAll RX1 (rmk 1) (some .int) D y) (v1 : Int) (Y : St) : GF X cX1_priceOfAll D (0, 0) (QI X D y (wR y q)) (fX1_priceOfAll_j26 v1 Y) 26 [some (.ref (q 0)), some (.int (iz v1)), none] [] (wR y q Y) := by
  unfold fX1_priceOfAll_j26
  refine g_iload_n hX dX1_priceOfAll_26 (rfl : 26 + 1 = 27) rfl ?_
  exact g_iret hX dX1_priceOfAll_27
set_option maxRecDepth 100000 in
theorem wX1_priceOfAll_4 {X : Cx} {D : va_G} {y : ClassId × ClassId × ClassId} {q : Nat → Nat} (hX : OKX X cX1_priceOfAll RX1 (rmk 1) (some .int) D y) : ∀ (n : Nat) (v1 v2 : Int) (Y : St), GF X cX1_priceOfAll D (0, 0) (QI X D y (wR y q)) (fX1_priceOfAll_l4 n v1 v2 Y) 4 [some (.ref (q 0)), some (.int (iz v1)), some (.int (iz v2))] [] (wR y q Y) := by
  intro n
  induction n with
  | zero => intro v1 v2 Y; exact g_none
  | succ n hk_4 =>
    intro v1 v2 Y
    unfold fX1_priceOfAll_l4
    refine g_iload_n hX dX1_priceOfAll_4 (rfl : 4 + 1 = 5) rfl ?_
    refine g_aload_n hX dX1_priceOfAll_5 (rfl : 5 + 1 = 6) rfl ?_
    refine ge_R_X1_30_R hX dX1_priceOfAll_6 (rfl : 6 + 3 = 9) ?_
    refine g_icmp_ge (tgt := 26) hX dX1_priceOfAll_9 (by decide) (rfl : 9 + 3 = 12) ?_ ?_
    · refine g_drop (lv' := [some (.ref (q 0)), some (.int (iz v1)), none]) 2 rfl ?_
      exact wX1_priceOfAll_26 hX v1 Y
    · refine g_iload_n hX dX1_priceOfAll_12 (rfl : 12 + 1 = 13) rfl ?_
      refine g_aload_n hX dX1_priceOfAll_13 (rfl : 13 + 1 = 14) rfl ?_
      refine g_iload_n hX dX1_priceOfAll_14 (rfl : 14 + 1 = 15) rfl ?_
      refine ci_RR hX (kX1_priceAt _ _ _ (q) _ _) mw_X1_34 (by decide) rfl rfl (Nat.le_of_ble_eq_true rfl) dX1_priceOfAll_15 (rfl : 15 + 3 = 18) (fun r102 Y101 => ?_)
      refine g_iadd hX dX1_priceOfAll_18 (rfl : 18 + 1 = 19) ?_
      refine g_istore_n (lv' := fun x103 => [some (.ref (q 0)), some (.int (iz x103)), some (.int (iz v2))]) hX dX1_priceOfAll_19 (rfl : 19 + 1 = 20) rfl (fun _ => rfl) (fun x103 => ?_)
      refine g_iinc (lv' := fun x104 => [some (.ref (q 0)), some (.int (iz x103)), some (.int (iz x104))]) hX dX1_priceOfAll_20 (rfl : 20 + 3 = 23) rfl (fun _ => rfl) (fun x104 => ?_)
      refine g_goto (pc' := 4) hX dX1_priceOfAll_23 (by decide) ?_
      exact hk_4 x103 x104 Y101
set_option maxRecDepth 100000 in
theorem kX1_priceOfAll (l : Launch) (D : va_G) (y : ClassId × ClassId × ClassId) (q : Nat → Nat) (Y : St) : CtI l D y yX1_priceOfAll cX1_priceOfAll 3 (some .int) (rmk 1) [.ref (q 0)] (wR y q) Y (fX1_priceOfAll Y) := by
  refine ctI_of (own := RX1) rfl (by decide) (cat1 rfl) rfl (fun X hl hX => ?_)
  subst hl
  show GF X cX1_priceOfAll D (0, 0) (QI X D y (wR y q)) (fX1_priceOfAll Y) 0 [some (.ref (q 0)), none, none] [] (wR y q Y)
  unfold fX1_priceOfAll
  refine g_iconst hX dX1_priceOfAll_0 (rfl : 0 + 1 = 1) ?_
  refine g_istore_n (lv' := fun x1 => [some (.ref (q 0)), some (.int (iz x1)), none]) hX dX1_priceOfAll_1 (rfl : 1 + 1 = 2) rfl (fun _ => rfl) (fun x1 => ?_)
  refine g_iconst hX dX1_priceOfAll_2 (rfl : 2 + 1 = 3) ?_
  refine g_istore_n (lv' := fun x2 => [some (.ref (q 0)), some (.int (iz x1)), some (.int (iz x2))]) hX dX1_priceOfAll_3 (rfl : 3 + 1 = 4) rfl (fun _ => rfl) (fun x2 => ?_)
  exact wX1_priceOfAll_4 hX FU x1 x2 Y
set_option maxRecDepth 100000 in
theorem kX1_unlike (l : Launch) (D : va_G) (y : ClassId × ClassId × ClassId) (q : Nat → Nat) (Y : St) : CtI l D y yX1_unlike cX1_unlike 1 (some .int) (rmk 1) [.ref (q 0)] (wR y q) Y (fX1_unlike Y) := by
  refine ctI_of (own := RX1) rfl (by decide) (cat1 rfl) rfl (fun X hl hX => ?_)
  subst hl
  show GF X cX1_unlike D (0, 0) (QI X D y (wR y q)) (fX1_unlike Y) 0 [some (.ref (q 0))] [] (wR y q Y)
  unfold fX1_unlike
  refine g_aload_n hX dX1_unlike_0 (rfl : 0 + 1 = 1) rfl ?_
  refine ci_RR hX (kX1_bits _ _ _ (q) _) mw_X1_38 (by decide) rfl rfl (Nat.le_of_ble_eq_true rfl) dX1_unlike_1 (rfl : 1 + 3 = 4) (fun r2 Y1 => ?_)
  refine g_callp hX (kJ6_bitCount_0f7a4 _ _ _ _) mw_X1_42 (by decide) rfl rfl (Nat.le_of_ble_eq_true rfl) dX1_unlike_4 (rfl : 4 + 3 = 7) (fun r3 => ?_)
  exact g_iret hX dX1_unlike_7
set_option maxRecDepth 100000 in
theorem wX1_phaseAt_56 {X : Cx} {D : va_G} {y : ClassId × ClassId × ClassId} {q : Nat → Nat} (hX : OKX X cX1_phaseAt RX1 (rmk 1) (some .int) D y) (v3 : Int) (Y : St) : GF X cX1_phaseAt D (0, 0) (QI X D y (wR y q)) (fX1_phaseAt_j56 v3 Y) 56 [some (.ref (q 0)), none, none, some (.int (iz v3)), none, none, none] [] (wR y q Y) := by
  unfold fX1_phaseAt_j56
  refine g_iload_n hX dX1_phaseAt_56 (rfl : 56 + 1 = 57) rfl ?_
  exact g_iret hX dX1_phaseAt_57
set_option maxRecDepth 100000 in
theorem wX1_phaseAt_43 {X : Cx} {D : va_G} {y : ClassId × ClassId × ClassId} {q : Nat → Nat} (hX : OKX X cX1_phaseAt RX1 (rmk 1) (some .int) D y) {k_8 : Int → Int → Int → Int → Int → (St) → Option (Int × (St))} (hk_8 : ∀ (v1 v2 v3 v4 v5 : Int) (Y : St), GF X cX1_phaseAt D (0, 0) (QI X D y (wR y q)) (k_8 v1 v2 v3 v4 v5 Y) 8 [some (.ref (q 0)), some (.int (iz v1)), some (.int (iz v2)), some (.int (iz v3)), some (.int (iz v4)), some (.int (iz v5)), none] [] (wR y q Y)) (v1 v2 v3 v4 v5 v6 : Int) (Y : St) : GF X cX1_phaseAt D (0, 0) (QI X D y (wR y q)) (fX1_phaseAt_j43 k_8 v1 v2 v3 v4 v5 v6 Y) 43 [some (.ref (q 0)), some (.int (iz v1)), some (.int (iz v2)), some (.int (iz v3)), some (.int (iz v4)), some (.int (iz v5)), some (.int (iz v6))] [] (wR y q Y) := by
  unfold fX1_phaseAt_j43
  refine g_iload hX dX1_phaseAt_43 (rfl : 43 + 2 = 45) rfl ?_
  refine g_iload hX dX1_phaseAt_45 (rfl : 45 + 2 = 47) rfl ?_
  refine g_ior hX dX1_phaseAt_47 (rfl : 47 + 1 = 48) ?_
  refine g_istore (lv' := fun x101 => [some (.ref (q 0)), some (.int (iz v1)), some (.int (iz v2)), some (.int (iz v3)), some (.int (iz x101)), some (.int (iz v5)), some (.int (iz v6))]) hX dX1_phaseAt_48 (rfl : 48 + 2 = 50) rfl (fun _ => rfl) (fun x101 => ?_)
  refine g_iinc (lv' := fun x102 => [some (.ref (q 0)), some (.int (iz v1)), some (.int (iz v2)), some (.int (iz v3)), some (.int (iz x101)), some (.int (iz x102)), some (.int (iz v6))]) hX dX1_phaseAt_50 (rfl : 50 + 3 = 53) rfl (fun _ => rfl) (fun x102 => ?_)
  refine g_goto (pc' := 8) hX dX1_phaseAt_53 (by decide) ?_
  refine g_drop (lv' := [some (.ref (q 0)), some (.int (iz v1)), some (.int (iz v2)), some (.int (iz v3)), some (.int (iz x101)), some (.int (iz x102)), none]) 6 rfl ?_
  exact hk_8 v1 v2 v3 x101 x102 Y
set_option maxRecDepth 100000 in
theorem wX1_phaseAt_8 {X : Cx} {D : va_G} {y : ClassId × ClassId × ClassId} {q : Nat → Nat} (hX : OKX X cX1_phaseAt RX1 (rmk 1) (some .int) D y) : ∀ (n : Nat) (v1 v2 v3 v4 v5 : Int) (Y : St), GF X cX1_phaseAt D (0, 0) (QI X D y (wR y q)) (fX1_phaseAt_l8 n v1 v2 v3 v4 v5 Y) 8 [some (.ref (q 0)), some (.int (iz v1)), some (.int (iz v2)), some (.int (iz v3)), some (.int (iz v4)), some (.int (iz v5)), none] [] (wR y q Y) := by
  intro n
  induction n with
  | zero => intro v1 v2 v3 v4 v5 Y; exact g_none
  | succ n hk_8 =>
    intro v1 v2 v3 v4 v5 Y
    unfold fX1_phaseAt_l8
    refine g_iload hX dX1_phaseAt_8 (rfl : 8 + 2 = 10) rfl ?_
    refine g_iload_n hX dX1_phaseAt_10 (rfl : 10 + 1 = 11) rfl ?_
    refine g_icmp_gt (tgt := 56) hX dX1_phaseAt_11 (by decide) (rfl : 11 + 3 = 14) ?_ ?_
    · refine g_drop (lv' := [some (.ref (q 0)), none, some (.int (iz v2)), some (.int (iz v3)), some (.int (iz v4)), some (.int (iz v5)), none]) 1 rfl ?_
      refine g_drop (lv' := [some (.ref (q 0)), none, none, some (.int (iz v3)), some (.int (iz v4)), some (.int (iz v5)), none]) 2 rfl ?_
      refine g_drop (lv' := [some (.ref (q 0)), none, none, some (.int (iz v3)), none, some (.int (iz v5)), none]) 4 rfl ?_
      refine g_drop (lv' := [some (.ref (q 0)), none, none, some (.int (iz v3)), none, none, none]) 5 rfl ?_
      exact wX1_phaseAt_56 hX v3 Y
    · refine g_iconst hX dX1_phaseAt_14 (rfl : 14 + 1 = 15) ?_
      refine g_aload_n hX dX1_phaseAt_15 (rfl : 15 + 1 = 16) rfl ?_
      refine ge_R_X1_9_R hX dX1_phaseAt_16 (rfl : 16 + 3 = 19) ?_
      refine g_iload hX dX1_phaseAt_19 (rfl : 19 + 2 = 21) rfl ?_
      refine al_R_R_0 hX dX1_phaseAt_21 (rfl : 21 + 1 = 22) ?_
      refine g_ishl hX dX1_phaseAt_22 (rfl : 22 + 1 = 23) ?_
      refine g_istore (lv' := fun x103 => [some (.ref (q 0)), some (.int (iz v1)), some (.int (iz v2)), some (.int (iz v3)), some (.int (iz v4)), some (.int (iz v5)), some (.int (iz x103))]) hX dX1_phaseAt_23 (rfl : 23 + 2 = 25) rfl (fun _ => rfl) (fun x103 => ?_)
      refine g_iload hX dX1_phaseAt_25 (rfl : 25 + 2 = 27) rfl ?_
      refine g_iload hX dX1_phaseAt_27 (rfl : 27 + 2 = 29) rfl ?_
      refine g_ior hX dX1_phaseAt_29 (rfl : 29 + 1 = 30) ?_
      refine g_callp hX (kJ6_bitCount_0f7a4 _ _ _ _) mw_X1_42 (by decide) rfl rfl (Nat.le_of_ble_eq_true rfl) dX1_phaseAt_30 (rfl : 30 + 3 = 33) (fun r104 => ?_)
      refine g_iload_n hX dX1_phaseAt_33 (rfl : 33 + 1 = 34) rfl ?_
      refine g_icmp_le (tgt := 43) hX dX1_phaseAt_34 (by decide) (rfl : 34 + 3 = 37) ?_ ?_
      · exact wX1_phaseAt_43 hX hk_8 v1 v2 v3 v4 v5 x103 Y
      · refine g_iinc (lv' := fun x105 => [some (.ref (q 0)), some (.int (iz v1)), some (.int (iz v2)), some (.int (iz x105)), some (.int (iz v4)), some (.int (iz v5)), some (.int (iz x103))]) hX dX1_phaseAt_37 (rfl : 37 + 3 = 40) rfl (fun _ => rfl) (fun x105 => ?_)
        refine g_iconst hX dX1_phaseAt_40 (rfl : 40 + 1 = 41) ?_
        refine g_istore (lv' := fun x106 => [some (.ref (q 0)), some (.int (iz v1)), some (.int (iz v2)), some (.int (iz x105)), some (.int (iz x106)), some (.int (iz v5)), some (.int (iz x103))]) hX dX1_phaseAt_41 (rfl : 41 + 2 = 43) rfl (fun _ => rfl) (fun x106 => ?_)
        exact wX1_phaseAt_43 hX hk_8 v1 v2 x105 x106 v5 x103 Y
set_option maxRecDepth 100000 in
theorem kX1_phaseAt (l : Launch) (D : va_G) (y : ClassId × ClassId × ClassId) (q : Nat → Nat) (Y : St) (a0 a1 : Int) : CtI l D y yX1_phaseAt cX1_phaseAt 7 (some .int) (rmk 1) [.ref (q 0), .int (iz a0), .int (iz a1)] (wR y q) Y (fX1_phaseAt Y a0 a1) := by
  refine ctI_of (own := RX1) rfl (by decide) (cat1 rfl) rfl (fun X hl hX => ?_)
  subst hl
  show GF X cX1_phaseAt D (0, 0) (QI X D y (wR y q)) (fX1_phaseAt Y a0 a1) 0 [some (.ref (q 0)), some (.int (iz a0)), some (.int (iz a1)), none, none, none, none] [] (wR y q Y)
  unfold fX1_phaseAt
  refine g_iconst hX dX1_phaseAt_0 (rfl : 0 + 1 = 1) ?_
  refine g_istore_n (lv' := fun x1 => [some (.ref (q 0)), some (.int (iz a0)), some (.int (iz a1)), some (.int (iz x1)), none, none, none]) hX dX1_phaseAt_1 (rfl : 1 + 1 = 2) rfl (fun _ => rfl) (fun x1 => ?_)
  refine g_iconst hX dX1_phaseAt_2 (rfl : 2 + 1 = 3) ?_
  refine g_istore (lv' := fun x2 => [some (.ref (q 0)), some (.int (iz a0)), some (.int (iz a1)), some (.int (iz x1)), some (.int (iz x2)), none, none]) hX dX1_phaseAt_3 (rfl : 3 + 2 = 5) rfl (fun _ => rfl) (fun x2 => ?_)
  refine g_iconst hX dX1_phaseAt_5 (rfl : 5 + 1 = 6) ?_
  refine g_istore (lv' := fun x3 => [some (.ref (q 0)), some (.int (iz a0)), some (.int (iz a1)), some (.int (iz x1)), some (.int (iz x2)), some (.int (iz x3)), none]) hX dX1_phaseAt_6 (rfl : 6 + 2 = 8) rfl (fun _ => rfl) (fun x3 => ?_)
  exact wX1_phaseAt_8 hX FU a0 a1 x1 x2 x3 Y
set_option maxRecDepth 100000 in
theorem wX1_distanceAt_32 {X : Cx} {D : va_G} {y : ClassId × ClassId × ClassId} {q : Nat → Nat} (hX : OKX X cX1_distanceAt RX1 (rmk 1) (some .int) D y) (v2 : Int) (Y : St) : GF X cX1_distanceAt D (0, 0) (QI X D y (wR y q)) (fX1_distanceAt_j32 v2 Y) 32 [some (.ref (q 0)), none, some (.int (iz v2)), none] [] (wR y q Y) := by
  unfold fX1_distanceAt_j32
  refine g_iload_n hX dX1_distanceAt_32 (rfl : 32 + 1 = 33) rfl ?_
  refine g_callp hX (kJ6_bitCount_0f7a4 _ _ _ _) mw_X1_42 (by decide) rfl rfl (Nat.le_of_ble_eq_true rfl) dX1_distanceAt_33 (rfl : 33 + 3 = 36) (fun r101 => ?_)
  exact g_iret hX dX1_distanceAt_36
set_option maxRecDepth 100000 in
theorem wX1_distanceAt_13 {X : Cx} {D : va_G} {y : ClassId × ClassId × ClassId} {q : Nat → Nat} (hX : OKX X cX1_distanceAt RX1 (rmk 1) (some .int) D y) : ∀ (n : Nat) (v1 v2 v3 : Int) (Y : St), GF X cX1_distanceAt D (0, 0) (QI X D y (wR y q)) (fX1_distanceAt_l13 n v1 v2 v3 Y) 13 [some (.ref (q 0)), some (.int (iz v1)), some (.int (iz v2)), some (.int (iz v3))] [] (wR y q Y) := by
  intro n
  induction n with
  | zero => intro v1 v2 v3 Y; exact g_none
  | succ n hk_13 =>
    intro v1 v2 v3 Y
    unfold fX1_distanceAt_l13
    refine g_iload_n hX dX1_distanceAt_13 (rfl : 13 + 1 = 14) rfl ?_
    refine g_if_lt (tgt := 54) hX dX1_distanceAt_14 (by decide) (rfl : 14 + 3 = 17) ?_ ?_
    · refine g_iconst hX dX1_distanceAt_54 (rfl : 54 + 1 = 55) ?_
      exact g_iret hX dX1_distanceAt_55
    · refine g_aload_n hX dX1_distanceAt_17 (rfl : 17 + 1 = 18) rfl ?_
      refine ge_R_X1_9_R hX dX1_distanceAt_18 (rfl : 18 + 3 = 21) ?_
      refine g_iload_n hX dX1_distanceAt_21 (rfl : 21 + 1 = 22) rfl ?_
      refine al_R_R_0 hX dX1_distanceAt_22 (rfl : 22 + 1 = 23) ?_
      refine g_aload_n hX dX1_distanceAt_23 (rfl : 23 + 1 = 24) rfl ?_
      refine ge_R_X1_9_R hX dX1_distanceAt_24 (rfl : 24 + 3 = 27) ?_
      refine g_iload_n hX dX1_distanceAt_27 (rfl : 27 + 1 = 28) rfl ?_
      refine al_R_R_0 hX dX1_distanceAt_28 (rfl : 28 + 1 = 29) ?_
      refine g_icmp_ne (tgt := 37) hX dX1_distanceAt_29 (by decide) (rfl : 29 + 3 = 32) ?_ ?_
      · refine g_iload_n hX dX1_distanceAt_37 (rfl : 37 + 1 = 38) rfl ?_
        refine g_iconst hX dX1_distanceAt_38 (rfl : 38 + 1 = 39) ?_
        refine g_aload_n hX dX1_distanceAt_39 (rfl : 39 + 1 = 40) rfl ?_
        refine ge_R_X1_9_R hX dX1_distanceAt_40 (rfl : 40 + 3 = 43) ?_
        refine g_iload_n hX dX1_distanceAt_43 (rfl : 43 + 1 = 44) rfl ?_
        refine al_R_R_0 hX dX1_distanceAt_44 (rfl : 44 + 1 = 45) ?_
        refine g_ishl hX dX1_distanceAt_45 (rfl : 45 + 1 = 46) ?_
        refine g_ior hX dX1_distanceAt_46 (rfl : 46 + 1 = 47) ?_
        refine g_istore_n (lv' := fun x102 => [some (.ref (q 0)), some (.int (iz v1)), some (.int (iz x102)), some (.int (iz v3))]) hX dX1_distanceAt_47 (rfl : 47 + 1 = 48) rfl (fun _ => rfl) (fun x102 => ?_)
        refine g_iinc (lv' := fun x103 => [some (.ref (q 0)), some (.int (iz v1)), some (.int (iz x102)), some (.int (iz x103))]) hX dX1_distanceAt_48 (rfl : 48 + 3 = 51) rfl (fun _ => rfl) (fun x103 => ?_)
        refine g_goto (pc' := 13) hX dX1_distanceAt_51 (by decide) ?_
        exact hk_13 v1 x102 x103 Y
      · refine g_drop (lv' := [some (.ref (q 0)), none, some (.int (iz v2)), some (.int (iz v3))]) 1 rfl ?_
        refine g_drop (lv' := [some (.ref (q 0)), none, some (.int (iz v2)), none]) 3 rfl ?_
        exact wX1_distanceAt_32 hX v2 Y
set_option maxRecDepth 100000 in
theorem kX1_distanceAt (l : Launch) (D : va_G) (y : ClassId × ClassId × ClassId) (q : Nat → Nat) (Y : St) (a0 : Int) : CtI l D y yX1_distanceAt cX1_distanceAt 4 (some .int) (rmk 1) [.ref (q 0), .int (iz a0)] (wR y q) Y (fX1_distanceAt Y a0) := by
  refine ctI_of (own := RX1) rfl (by decide) (cat1 rfl) rfl (fun X hl hX => ?_)
  subst hl
  show GF X cX1_distanceAt D (0, 0) (QI X D y (wR y q)) (fX1_distanceAt Y a0) 0 [some (.ref (q 0)), some (.int (iz a0)), none, none] [] (wR y q Y)
  unfold fX1_distanceAt
  refine g_iconst hX dX1_distanceAt_0 (rfl : 0 + 1 = 1) ?_
  refine g_aload_n hX dX1_distanceAt_1 (rfl : 1 + 1 = 2) rfl ?_
  refine ge_R_X1_9_R hX dX1_distanceAt_2 (rfl : 2 + 3 = 5) ?_
  refine g_iload_n hX dX1_distanceAt_5 (rfl : 5 + 1 = 6) rfl ?_
  refine al_R_R_0 hX dX1_distanceAt_6 (rfl : 6 + 1 = 7) ?_
  refine g_ishl hX dX1_distanceAt_7 (rfl : 7 + 1 = 8) ?_
  refine g_istore_n (lv' := fun x1 => [some (.ref (q 0)), some (.int (iz a0)), some (.int (iz x1)), none]) hX dX1_distanceAt_8 (rfl : 8 + 1 = 9) rfl (fun _ => rfl) (fun x1 => ?_)
  refine g_iload_n hX dX1_distanceAt_9 (rfl : 9 + 1 = 10) rfl ?_
  refine g_iconst hX dX1_distanceAt_10 (rfl : 10 + 1 = 11) ?_
  refine g_isub hX dX1_distanceAt_11 (rfl : 11 + 1 = 12) ?_
  refine g_istore_n (lv' := fun x2 => [some (.ref (q 0)), some (.int (iz a0)), some (.int (iz x1)), some (.int (iz x2))]) hX dX1_distanceAt_12 (rfl : 12 + 1 = 13) rfl (fun _ => rfl) (fun x2 => ?_)
  exact wX1_distanceAt_13 hX FU a0 x1 x2 Y
set_option maxRecDepth 100000 in
theorem wX1_findNext_17 {X : Cx} {D : va_G} {y : ClassId × ClassId × ClassId} {q : Nat → Nat} (hX : OKX X cX1_findNext RX1 (rmk 1) none D y) : ∀ (n : Nat) (v1 : Int) (Y : St), GF X cX1_findNext D (0, 0) (QV X D y (wR y q)) (fX1_findNext_l17 n v1 Y) 17 [some (.ref (q 0)), some (.int (iz v1))] [] (wR y q Y) := by
  intro n
  induction n with
  | zero => intro v1 Y; exact g_none
  | succ n hk_17 =>
    intro v1 Y
    unfold fX1_findNext_l17
    refine g_iload_n hX dX1_findNext_17 (rfl : 17 + 1 = 18) rfl ?_
    refine g_if_lt (tgt := 56) hX dX1_findNext_18 (by decide) (rfl : 18 + 3 = 21) ?_ ?_
    · exact g_vret hX dX1_findNext_56
    · refine g_aload_n hX dX1_findNext_21 (rfl : 21 + 1 = 22) rfl ?_
      refine ge_R_X1_18_R hX dX1_findNext_22 (rfl : 22 + 3 = 25) ?_
      refine g_iload_n hX dX1_findNext_25 (rfl : 25 + 1 = 26) rfl ?_
      refine g_aload_n hX dX1_findNext_26 (rfl : 26 + 1 = 27) rfl ?_
      refine ge_R_X1_21_R hX dX1_findNext_27 (rfl : 27 + 3 = 30) ?_
      refine g_aload_n hX dX1_findNext_30 (rfl : 30 + 1 = 31) rfl ?_
      refine ge_R_X1_9_R hX dX1_findNext_31 (rfl : 31 + 3 = 34) ?_
      refine g_iload_n hX dX1_findNext_34 (rfl : 34 + 1 = 35) rfl ?_
      refine al_R_R_0 hX dX1_findNext_35 (rfl : 35 + 1 = 36) ?_
      refine al_R_R_3 hX dX1_findNext_36 (rfl : 36 + 1 = 37) ?_
      refine as_R_R_2 hX dX1_findNext_37 (rfl : 37 + 1 = 38) (fun Y101 => ?_)
      refine g_aload_n hX dX1_findNext_38 (rfl : 38 + 1 = 39) rfl ?_
      refine ge_R_X1_21_R hX dX1_findNext_39 (rfl : 39 + 3 = 42) ?_
      refine g_aload_n hX dX1_findNext_42 (rfl : 42 + 1 = 43) rfl ?_
      refine ge_R_X1_9_R hX dX1_findNext_43 (rfl : 43 + 3 = 46) ?_
      refine g_iload_n hX dX1_findNext_46 (rfl : 46 + 1 = 47) rfl ?_
      refine al_R_R_0 hX dX1_findNext_47 (rfl : 47 + 1 = 48) ?_
      refine g_iload_n hX dX1_findNext_48 (rfl : 48 + 1 = 49) rfl ?_
      refine as_R_R_3 hX dX1_findNext_49 (rfl : 49 + 1 = 50) (fun Y102 => ?_)
      refine g_iinc (lv' := fun x103 => [some (.ref (q 0)), some (.int (iz x103))]) hX dX1_findNext_50 (rfl : 50 + 3 = 53) rfl (fun _ => rfl) (fun x103 => ?_)
      refine g_goto (pc' := 17) hX dX1_findNext_53 (by decide) ?_
      exact hk_17 x103 Y102
set_option maxRecDepth 100000 in
theorem kX1_findNext (l : Launch) (D : va_G) (y : ClassId × ClassId × ClassId) (q : Nat → Nat) (Y : St) : CtV l D y yX1_findNext cX1_findNext 2 (rmk 1) [.ref (q 0)] (wR y q) Y (fX1_findNext Y) := by
  refine ctV_of (own := RX1) rfl (by decide) (cat1 rfl) rfl (fun X hl hX => ?_)
  subst hl
  show GF X cX1_findNext D (0, 0) (QV X D y (wR y q)) (fX1_findNext Y) 0 [some (.ref (q 0)), none] [] (wR y q Y)
  unfold fX1_findNext
  refine g_aload_n hX dX1_findNext_0 (rfl : 0 + 1 = 1) rfl ?_
  refine ge_R_X1_21_R hX dX1_findNext_1 (rfl : 1 + 3 = 4) ?_
  refine g_sipush hX dX1_findNext_4 (by decide) (rfl : 4 + 3 = 7) ?_
  refine fi_R_X1_R_3 hX (by decide) (Nat.le_of_ble_eq_true rfl) dX1_findNext_7 (rfl : 7 + 3 = 10) (fun Y1 => ?_)
  refine g_aload_n hX dX1_findNext_10 (rfl : 10 + 1 = 11) rfl ?_
  refine ge_R_X1_30_R hX dX1_findNext_11 (rfl : 11 + 3 = 14) ?_
  refine g_iconst hX dX1_findNext_14 (rfl : 14 + 1 = 15) ?_
  refine g_isub hX dX1_findNext_15 (rfl : 15 + 1 = 16) ?_
  refine g_istore_n (lv' := fun x2 => [some (.ref (q 0)), some (.int (iz x2))]) hX dX1_findNext_16 (rfl : 16 + 1 = 17) rfl (fun _ => rfl) (fun x2 => ?_)
  exact wX1_findNext_17 hX FU x2 Y1
