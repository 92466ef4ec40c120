set_option maxRecDepth 100000 in
theorem kJ6_bitCount_0f7a4 (l : Launch) (D : va_G) (y : ClassId × ClassId × ClassId) (a0 : Int) : CtP l D y yJ6_bitCount_0f7a4 cJ6_bitCount_0f7a4 1 (some .int) (rmk 0) [.int (iz a0)] (fJ6_bitCount_0f7a4 a0) := by
  refine ctP_of (own := RJ6) rfl (by decide) (cat1 rfl) rfl (fun X hl hX => ?_)
  subst hl
  show GF X cJ6_bitCount_0f7a4 D (0, 0) (QP X) (fJ6_bitCount_0f7a4 a0) 0 [some (.int (iz a0))] [] []
  unfold fJ6_bitCount_0f7a4
  refine g_iload_n hX dJ6_bitCount_0f7a4_0 (rfl : 0 + 1 = 1) rfl ?_
  refine g_iload_n hX dJ6_bitCount_0f7a4_1 (rfl : 1 + 1 = 2) rfl ?_
  refine g_iconst hX dJ6_bitCount_0f7a4_2 (rfl : 2 + 1 = 3) ?_
  refine g_iushr hX dJ6_bitCount_0f7a4_3 (rfl : 3 + 1 = 4) ?_
  refine g_ldcw hX (1431655765) mc_J6_265 (by decide) dJ6_bitCount_0f7a4_4 (rfl : 4 + 3 = 7) ?_
  refine g_iand hX dJ6_bitCount_0f7a4_7 (rfl : 7 + 1 = 8) ?_
  refine g_isub hX dJ6_bitCount_0f7a4_8 (rfl : 8 + 1 = 9) ?_
  refine g_istore_n (lv' := fun x1 => [some (.int (iz x1))]) hX dJ6_bitCount_0f7a4_9 (rfl : 9 + 1 = 10) rfl (fun _ => rfl) (fun x1 => ?_)
  refine g_iload_n hX dJ6_bitCount_0f7a4_10 (rfl : 10 + 1 = 11) rfl ?_
  refine g_ldcw hX (858993459) mc_J6_266 (by decide) dJ6_bitCount_0f7a4_11 (rfl : 11 + 3 = 14) ?_
  refine g_iand hX dJ6_bitCount_0f7a4_14 (rfl : 14 + 1 = 15) ?_
  refine g_iload_n hX dJ6_bitCount_0f7a4_15 (rfl : 15 + 1 = 16) rfl ?_
  refine g_iconst hX dJ6_bitCount_0f7a4_16 (rfl : 16 + 1 = 17) ?_
  refine g_iushr hX dJ6_bitCount_0f7a4_17 (rfl : 17 + 1 = 18) ?_
  refine g_ldcw hX (858993459) mc_J6_266 (by decide) dJ6_bitCount_0f7a4_18 (rfl : 18 + 3 = 21) ?_
  refine g_iand hX dJ6_bitCount_0f7a4_21 (rfl : 21 + 1 = 22) ?_
  refine g_iadd hX dJ6_bitCount_0f7a4_22 (rfl : 22 + 1 = 23) ?_
  refine g_istore_n (lv' := fun x2 => [some (.int (iz x2))]) hX dJ6_bitCount_0f7a4_23 (rfl : 23 + 1 = 24) rfl (fun _ => rfl) (fun x2 => ?_)
  refine g_iload_n hX dJ6_bitCount_0f7a4_24 (rfl : 24 + 1 = 25) rfl ?_
  refine g_iload_n hX dJ6_bitCount_0f7a4_25 (rfl : 25 + 1 = 26) rfl ?_
  refine g_iconst hX dJ6_bitCount_0f7a4_26 (rfl : 26 + 1 = 27) ?_
  refine g_iushr hX dJ6_bitCount_0f7a4_27 (rfl : 27 + 1 = 28) ?_
  refine g_iadd hX dJ6_bitCount_0f7a4_28 (rfl : 28 + 1 = 29) ?_
  refine g_ldcw hX (252645135) mc_J6_267 (by decide) dJ6_bitCount_0f7a4_29 (rfl : 29 + 3 = 32) ?_
  refine g_iand hX dJ6_bitCount_0f7a4_32 (rfl : 32 + 1 = 33) ?_
  refine g_istore_n (lv' := fun x3 => [some (.int (iz x3))]) hX dJ6_bitCount_0f7a4_33 (rfl : 33 + 1 = 34) rfl (fun _ => rfl) (fun x3 => ?_)
  refine g_iload_n hX dJ6_bitCount_0f7a4_34 (rfl : 34 + 1 = 35) rfl ?_
  refine g_iload_n hX dJ6_bitCount_0f7a4_35 (rfl : 35 + 1 = 36) rfl ?_
  refine g_bipush hX dJ6_bitCount_0f7a4_36 (by decide) (rfl : 36 + 2 = 38) ?_
  refine g_iushr hX dJ6_bitCount_0f7a4_38 (rfl : 38 + 1 = 39) ?_
  refine g_iadd hX dJ6_bitCount_0f7a4_39 (rfl : 39 + 1 = 40) ?_
  refine g_istore_n (lv' := fun x4 => [some (.int (iz x4))]) hX dJ6_bitCount_0f7a4_40 (rfl : 40 + 1 = 41) rfl (fun _ => rfl) (fun x4 => ?_)
  refine g_iload_n hX dJ6_bitCount_0f7a4_41 (rfl : 41 + 1 = 42) rfl ?_
  refine g_iload_n hX dJ6_bitCount_0f7a4_42 (rfl : 42 + 1 = 43) rfl ?_
  refine g_bipush hX dJ6_bitCount_0f7a4_43 (by decide) (rfl : 43 + 2 = 45) ?_
  refine g_iushr hX dJ6_bitCount_0f7a4_45 (rfl : 45 + 1 = 46) ?_
  refine g_iadd hX dJ6_bitCount_0f7a4_46 (rfl : 46 + 1 = 47) ?_
  refine g_istore_n (lv' := fun x5 => [some (.int (iz x5))]) hX dJ6_bitCount_0f7a4_47 (rfl : 47 + 1 = 48) rfl (fun _ => rfl) (fun x5 => ?_)
  refine g_iload_n hX dJ6_bitCount_0f7a4_48 (rfl : 48 + 1 = 49) rfl ?_
  refine g_bipush hX dJ6_bitCount_0f7a4_49 (by decide) (rfl : 49 + 2 = 51) ?_
  refine g_iand hX dJ6_bitCount_0f7a4_51 (rfl : 51 + 1 = 52) ?_
  exact g_iretP hX dJ6_bitCount_0f7a4_52
