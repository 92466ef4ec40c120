def wL (y : ClassId × ClassId × ClassId) (q qm : Nat → Nat) (Y : (St × St × St × St × St) × St) : va_W := wJ y q Y.1 ++ wM y qm Y.2
def SX (X : Cx) (b L : Nat) (xs : Nat → Int) : Prop := va_X b L (fun j => iz (xs j)) (cxs X) (cxs X).heap ∧ b < (cxs X).heap.size ∧ (¬ cxA X b) ∧ L < 2147483648
theorem g_sld {O : Type} {X : Cx} {cc : ByteArray} {own : String} {rm : Room} {ret : Option FieldType} {D : va_G} {y : ClassId × ClassId × ClassId} {z : Nat × Nat} {Q : O → State → Prop} {F : Option O} {pc pc' : Nat} {lv : List (Option Value)} {st : List Value} {ws : va_W} {b L : Nat} {xs : Nat → Int} {i : Int} (hX : OKX X cc own rm ret D y) (hb : SX X b L xs) (hd : decode cc pc = .ok (.iaload, 1)) (hp : pc + 1 = pc') (k : GF X cc D z Q F pc' lv (.int (iz (xs i.toNat)) :: st) ws) : GF X cc D z Q (bd i L F) pc lv (.int (iz i) :: .ref b :: st) ws := by
  subst hp
  intro o ho H locs ls hP hD hS hl
  unfold bd at ho
  split at ho
  · next h =>
    have k := k o ho H locs ls hP hD hS hl
    obtain ⟨h1, h2⟩ := iz_in h hb.2.2.2
    rw [← h2] at k
    exact va_sld hX.1 hX.2.1 hb.1 hb.2.1 hb.2.2.1 hS h1 hd k
  · cases ho
theorem g_slen {O : Type} {X : Cx} {cc : ByteArray} {own : String} {rm : Room} {ret : Option FieldType} {D : va_G} {y : ClassId × ClassId × ClassId} {z : Nat × Nat} {Q : O → State → Prop} {F : Option O} {pc pc' : Nat} {lv : List (Option Value)} {st : List Value} {ws : va_W} {b L : Nat} {xs : Nat → Int} (hX : OKX X cc own rm ret D y) (hb : SX X b L xs) (hd : decode cc pc = .ok (.arraylength, 1)) (hp : pc + 1 = pc') (k : GF X cc D z Q F pc' lv (.int (iz (L : Int)) :: st) ws) : GF X cc D z Q F pc lv (.ref b :: st) ws := by
  subst hp
  intro o ho H locs ls hP hD hS hl
  exact va_slen hX.1 hX.2.1 hb.1 hb.2.1 hb.2.2.1 hS hd (k o ho H locs ls hP hD hS hl)
set_option maxRecDepth 20000 in
theorem mw_L_13 : VW RL 13 RX3 yX3_price cX3_price 3 (some .int) 2 := ⟨gd_in (List.mem_append_right _ (List.mem_of_getElem? (i := 199) rfl)) rfl, gd_in (List.mem_append_right _ (List.mem_of_getElem? (i := 200) rfl)) rfl, gd_in (List.mem_append_right _ (List.mem_of_getElem? (i := 201) rfl)) rfl, gd_in (List.mem_append_right _ (List.mem_of_getElem? (i := 1) rfl)) rfl, gd_in (List.mem_append_right _ (List.mem_of_getElem? (i := 202) rfl)) rfl, by decide, by decide, by decide⟩
set_option maxRecDepth 20000 in
theorem mw_L_17 : VW RL 17 RX4 yX4_price cX4_price 3 (some .int) 2 := ⟨gd_in (List.mem_append_right _ (List.mem_of_getElem? (i := 634) rfl)) rfl, gd_in (List.mem_append_right _ (List.mem_of_getElem? (i := 635) rfl)) rfl, gd_in (List.mem_append_right _ (List.mem_of_getElem? (i := 636) rfl)) rfl, gd_in (List.mem_append_right _ (List.mem_of_getElem? (i := 6) rfl)) rfl, gd_in (List.mem_append_right _ (List.mem_of_getElem? (i := 637) rfl)) rfl, by decide, by decide, by decide⟩
set_option maxRecDepth 20000 in
theorem mw_L_18 : VW RL 18 RX3 yX3_ask cX3_ask 8 (some .int) 5 := ⟨gd_in (List.mem_append_right _ (List.mem_of_getElem? (i := 210) rfl)) rfl, gd_in (List.mem_append_right _ (List.mem_of_getElem? (i := 211) rfl)) rfl, gd_in (List.mem_append_right _ (List.mem_of_getElem? (i := 212) rfl)) rfl, gd_in (List.mem_append_right _ (List.mem_of_getElem? (i := 1) rfl)) rfl, gd_in (List.mem_append_right _ (List.mem_of_getElem? (i := 213) rfl)) rfl, by decide, by decide, by decide⟩
set_option maxRecDepth 20000 in
theorem mw_L_22 : VW RL 22 RX4 yX4_ask cX4_ask 8 (some .int) 5 := ⟨gd_in (List.mem_append_right _ (List.mem_of_getElem? (i := 644) rfl)) rfl, gd_in (List.mem_append_right _ (List.mem_of_getElem? (i := 645) rfl)) rfl, gd_in (List.mem_append_right _ (List.mem_of_getElem? (i := 646) rfl)) rfl, gd_in (List.mem_append_right _ (List.mem_of_getElem? (i := 6) rfl)) rfl, gd_in (List.mem_append_right _ (List.mem_of_getElem? (i := 647) rfl)) rfl, by decide, by decide, by decide⟩
set_option maxRecDepth 20000 in
theorem mw_L_23 : VW RL 23 RX3 yX3_draw cX3_draw 6 (some .int) 3 := ⟨gd_in (List.mem_append_right _ (List.mem_of_getElem? (i := 218) rfl)) rfl, gd_in (List.mem_append_right _ (List.mem_of_getElem? (i := 219) rfl)) rfl, gd_in (List.mem_append_right _ (List.mem_of_getElem? (i := 220) rfl)) rfl, gd_in (List.mem_append_right _ (List.mem_of_getElem? (i := 1) rfl)) rfl, gd_in (List.mem_append_right _ (List.mem_of_getElem? (i := 221) rfl)) rfl, by decide, by decide, by decide⟩
set_option maxRecDepth 20000 in
theorem mw_L_27 : VW RL 27 RX4 yX4_draw cX4_draw 6 (some .int) 3 := ⟨gd_in (List.mem_append_right _ (List.mem_of_getElem? (i := 652) rfl)) rfl, gd_in (List.mem_append_right _ (List.mem_of_getElem? (i := 653) rfl)) rfl, gd_in (List.mem_append_right _ (List.mem_of_getElem? (i := 654) rfl)) rfl, gd_in (List.mem_append_right _ (List.mem_of_getElem? (i := 6) rfl)) rfl, gd_in (List.mem_append_right _ (List.mem_of_getElem? (i := 655) rfl)) rfl, by decide, by decide, by decide⟩
set_option maxRecDepth 20000 in
theorem mw_L_28 : VW RL 28 RX3 yX3_change cX3_change 3 (some .int) 2 := ⟨gd_in (List.mem_append_right _ (List.mem_of_getElem? (i := 223) rfl)) rfl, gd_in (List.mem_append_right _ (List.mem_of_getElem? (i := 224) rfl)) rfl, gd_in (List.mem_append_right _ (List.mem_of_getElem? (i := 225) rfl)) rfl, gd_in (List.mem_append_right _ (List.mem_of_getElem? (i := 1) rfl)) rfl, gd_in (List.mem_append_right _ (List.mem_of_getElem? (i := 226) rfl)) rfl, by decide, by decide, by decide⟩
set_option maxRecDepth 20000 in
theorem mw_L_31 : VW RL 31 RX4 yX4_change cX4_change 3 (some .int) 2 := ⟨gd_in (List.mem_append_right _ (List.mem_of_getElem? (i := 657) rfl)) rfl, gd_in (List.mem_append_right _ (List.mem_of_getElem? (i := 658) rfl)) rfl, gd_in (List.mem_append_right _ (List.mem_of_getElem? (i := 659) rfl)) rfl, gd_in (List.mem_append_right _ (List.mem_of_getElem? (i := 6) rfl)) rfl, gd_in (List.mem_append_right _ (List.mem_of_getElem? (i := 660) rfl)) rfl, by decide, by decide, by decide⟩
set_option maxRecDepth 20000 in
theorem mw_L_32 : VW RL 32 RX3 yX3_cut cX3_cut 2 (some .int) 1 := ⟨gd_in (List.mem_append_right _ (List.mem_of_getElem? (i := 231) rfl)) rfl, gd_in (List.mem_append_right _ (List.mem_of_getElem? (i := 232) rfl)) rfl, gd_in (List.mem_append_right _ (List.mem_of_getElem? (i := 233) rfl)) rfl, gd_in (List.mem_append_right _ (List.mem_of_getElem? (i := 1) rfl)) rfl, gd_in (List.mem_append_right _ (List.mem_of_getElem? (i := 234) rfl)) rfl, by decide, by decide, by decide⟩
set_option maxRecDepth 20000 in
theorem mw_L_36 : VW RL 36 RX4 yX4_cut cX4_cut 2 (some .int) 1 := ⟨gd_in (List.mem_append_right _ (List.mem_of_getElem? (i := 665) rfl)) rfl, gd_in (List.mem_append_right _ (List.mem_of_getElem? (i := 666) rfl)) rfl, gd_in (List.mem_append_right _ (List.mem_of_getElem? (i := 667) rfl)) rfl, gd_in (List.mem_append_right _ (List.mem_of_getElem? (i := 6) rfl)) rfl, gd_in (List.mem_append_right _ (List.mem_of_getElem? (i := 668) rfl)) rfl, by decide, by decide, by decide⟩
set_option maxRecDepth 20000 in
theorem mw_L_37 : VW RL 37 RX3 yX3_asked cX3_asked 2 (some .int) 1 := ⟨gd_in (List.mem_append_right _ (List.mem_of_getElem? (i := 235) rfl)) rfl, gd_in (List.mem_append_right _ (List.mem_of_getElem? (i := 236) rfl)) rfl, gd_in (List.mem_append_right _ (List.mem_of_getElem? (i := 237) rfl)) rfl, gd_in (List.mem_append_right _ (List.mem_of_getElem? (i := 1) rfl)) rfl, gd_in (List.mem_append_right _ (List.mem_of_getElem? (i := 238) rfl)) rfl, by decide, by decide, by decide⟩
set_option maxRecDepth 20000 in
theorem mw_L_40 : VW RL 40 RX4 yX4_asked cX4_asked 2 (some .int) 1 := ⟨gd_in (List.mem_append_right _ (List.mem_of_getElem? (i := 669) rfl)) rfl, gd_in (List.mem_append_right _ (List.mem_of_getElem? (i := 670) rfl)) rfl, gd_in (List.mem_append_right _ (List.mem_of_getElem? (i := 671) rfl)) rfl, gd_in (List.mem_append_right _ (List.mem_of_getElem? (i := 6) rfl)) rfl, gd_in (List.mem_append_right _ (List.mem_of_getElem? (i := 672) rfl)) rfl, by decide, by decide, by decide⟩
set_option maxRecDepth 20000 in
theorem mw_L_41 : VW RL 41 RX3 yX3_many cX3_many 2 (some .int) 1 := ⟨gd_in (List.mem_append_right _ (List.mem_of_getElem? (i := 239) rfl)) rfl, gd_in (List.mem_append_right _ (List.mem_of_getElem? (i := 240) rfl)) rfl, gd_in (List.mem_append_right _ (List.mem_of_getElem? (i := 241) rfl)) rfl, gd_in (List.mem_append_right _ (List.mem_of_getElem? (i := 1) rfl)) rfl, gd_in (List.mem_append_right _ (List.mem_of_getElem? (i := 242) rfl)) rfl, by decide, by decide, by decide⟩
set_option maxRecDepth 20000 in
theorem mw_L_44 : VW RL 44 RX4 yX4_many cX4_many 2 (some .int) 1 := ⟨gd_in (List.mem_append_right _ (List.mem_of_getElem? (i := 673) rfl)) rfl, gd_in (List.mem_append_right _ (List.mem_of_getElem? (i := 674) rfl)) rfl, gd_in (List.mem_append_right _ (List.mem_of_getElem? (i := 675) rfl)) rfl, gd_in (List.mem_append_right _ (List.mem_of_getElem? (i := 6) rfl)) rfl, gd_in (List.mem_append_right _ (List.mem_of_getElem? (i := 676) rfl)) rfl, by decide, by decide, by decide⟩
set_option maxRecDepth 20000 in
theorem mw_L_45 : VW RL 45 RX3 yX3_serve cX3_serve 4 (some .int) 2 := ⟨gd_in (List.mem_append_right _ (List.mem_of_getElem? (i := 265) rfl)) rfl, gd_in (List.mem_append_right _ (List.mem_of_getElem? (i := 266) rfl)) rfl, gd_in (List.mem_append_right _ (List.mem_of_getElem? (i := 267) rfl)) rfl, gd_in (List.mem_append_right _ (List.mem_of_getElem? (i := 1) rfl)) rfl, gd_in (List.mem_append_right _ (List.mem_of_getElem? (i := 268) rfl)) rfl, by decide, by decide, by decide⟩
set_option maxRecDepth 20000 in
theorem mw_L_48 : VW RL 48 RX4 yX4_serve cX4_serve 5 (some .int) 2 := ⟨gd_in (List.mem_append_right _ (List.mem_of_getElem? (i := 685) rfl)) rfl, gd_in (List.mem_append_right _ (List.mem_of_getElem? (i := 686) rfl)) rfl, gd_in (List.mem_append_right _ (List.mem_of_getElem? (i := 687) rfl)) rfl, gd_in (List.mem_append_right _ (List.mem_of_getElem? (i := 6) rfl)) rfl, gd_in (List.mem_append_right _ (List.mem_of_getElem? (i := 688) rfl)) rfl, by decide, by decide, by decide⟩
set_option maxRecDepth 20000 in
theorem mw_L_49 : VW RL 49 RX3 yX3_paid cX3_paid 1 (some .int) 0 := ⟨gd_in (List.mem_append_right _ (List.mem_of_getElem? (i := 361) rfl)) rfl, gd_in (List.mem_append_right _ (List.mem_of_getElem? (i := 362) rfl)) rfl, gd_in (List.mem_append_right _ (List.mem_of_getElem? (i := 363) rfl)) rfl, gd_in (List.mem_append_right _ (List.mem_of_getElem? (i := 1) rfl)) rfl, gd_in (List.mem_append_right _ (List.mem_of_getElem? (i := 364) rfl)) rfl, by decide, by decide, by decide⟩
set_option maxRecDepth 20000 in
theorem mw_L_53 : VW RL 53 RX4 yX4_paid cX4_paid 3 (some .int) 0 := ⟨gd_in (List.mem_append_right _ (List.mem_of_getElem? (i := 761) rfl)) rfl, gd_in (List.mem_append_right _ (List.mem_of_getElem? (i := 762) rfl)) rfl, gd_in (List.mem_append_right _ (List.mem_of_getElem? (i := 763) rfl)) rfl, gd_in (List.mem_append_right _ (List.mem_of_getElem? (i := 6) rfl)) rfl, gd_in (List.mem_append_right _ (List.mem_of_getElem? (i := 764) rfl)) rfl, by decide, by decide, by decide⟩
set_option maxRecDepth 20000 in
theorem mw_L_54 : VW RL 54 RX3 yX3_hit cX3_hit 2 (some .int) 1 := ⟨gd_in (List.mem_append_right _ (List.mem_of_getElem? (i := 365) rfl)) rfl, gd_in (List.mem_append_right _ (List.mem_of_getElem? (i := 366) rfl)) rfl, gd_in (List.mem_append_right _ (List.mem_of_getElem? (i := 367) rfl)) rfl, gd_in (List.mem_append_right _ (List.mem_of_getElem? (i := 1) rfl)) rfl, gd_in (List.mem_append_right _ (List.mem_of_getElem? (i := 368) rfl)) rfl, by decide, by decide, by decide⟩
set_option maxRecDepth 20000 in
theorem mw_L_57 : VW RL 57 RX4 yX4_hit_ cX4_hit_ 2 (some .int) 1 := ⟨gd_in (List.mem_append_right _ (List.mem_of_getElem? (i := 765) rfl)) rfl, gd_in (List.mem_append_right _ (List.mem_of_getElem? (i := 766) rfl)) rfl, gd_in (List.mem_append_right _ (List.mem_of_getElem? (i := 767) rfl)) rfl, gd_in (List.mem_append_right _ (List.mem_of_getElem? (i := 6) rfl)) rfl, gd_in (List.mem_append_right _ (List.mem_of_getElem? (i := 768) rfl)) rfl, by decide, by decide, by decide⟩
set_option maxRecDepth 20000 in
theorem mw_L_58 : VW RL 58 RX3 yX3_gone cX3_gone 2 (some .int) 1 := ⟨gd_in (List.mem_append_right _ (List.mem_of_getElem? (i := 369) rfl)) rfl, gd_in (List.mem_append_right _ (List.mem_of_getElem? (i := 370) rfl)) rfl, gd_in (List.mem_append_right _ (List.mem_of_getElem? (i := 371) rfl)) rfl, gd_in (List.mem_append_right _ (List.mem_of_getElem? (i := 1) rfl)) rfl, gd_in (List.mem_append_right _ (List.mem_of_getElem? (i := 372) rfl)) rfl, by decide, by decide, by decide⟩
set_option maxRecDepth 20000 in
theorem mw_L_61 : VW RL 61 RX4 yX4_gone cX4_gone 2 (some .int) 1 := ⟨gd_in (List.mem_append_right _ (List.mem_of_getElem? (i := 769) rfl)) rfl, gd_in (List.mem_append_right _ (List.mem_of_getElem? (i := 770) rfl)) rfl, gd_in (List.mem_append_right _ (List.mem_of_getElem? (i := 771) rfl)) rfl, gd_in (List.mem_append_right _ (List.mem_of_getElem? (i := 6) rfl)) rfl, gd_in (List.mem_append_right _ (List.mem_of_getElem? (i := 772) rfl)) rfl, by decide, by decide, by decide⟩
set_option maxRecDepth 20000 in
theorem mw_L_62 : VW RL 62 RX3 yX3_look cX3_look 4 (some .int) 3 := ⟨gd_in (List.mem_append_right _ (List.mem_of_getElem? (i := 373) rfl)) rfl, gd_in (List.mem_append_right _ (List.mem_of_getElem? (i := 374) rfl)) rfl, gd_in (List.mem_append_right _ (List.mem_of_getElem? (i := 375) rfl)) rfl, gd_in (List.mem_append_right _ (List.mem_of_getElem? (i := 1) rfl)) rfl, gd_in (List.mem_append_right _ (List.mem_of_getElem? (i := 376) rfl)) rfl, by decide, by decide, by decide⟩
set_option maxRecDepth 20000 in
theorem mw_L_65 : VW RL 65 RX4 yX4_look cX4_look 4 (some .int) 3 := ⟨gd_in (List.mem_append_right _ (List.mem_of_getElem? (i := 773) rfl)) rfl, gd_in (List.mem_append_right _ (List.mem_of_getElem? (i := 774) rfl)) rfl, gd_in (List.mem_append_right _ (List.mem_of_getElem? (i := 775) rfl)) rfl, gd_in (List.mem_append_right _ (List.mem_of_getElem? (i := 6) rfl)) rfl, gd_in (List.mem_append_right _ (List.mem_of_getElem? (i := 776) rfl)) rfl, by decide, by decide, by decide⟩
set_option maxRecDepth 20000 in
theorem mw_L_66 : VW RL 66 RX3 yX3_level cX3_level 3 (some .int) 2 := ⟨gd_in (List.mem_append_right _ (List.mem_of_getElem? (i := 393) rfl)) rfl, gd_in (List.mem_append_right _ (List.mem_of_getElem? (i := 394) rfl)) rfl, gd_in (List.mem_append_right _ (List.mem_of_getElem? (i := 395) rfl)) rfl, gd_in (List.mem_append_right _ (List.mem_of_getElem? (i := 1) rfl)) rfl, gd_in (List.mem_append_right _ (List.mem_of_getElem? (i := 396) rfl)) rfl, by decide, by decide, by decide⟩
set_option maxRecDepth 20000 in
theorem mw_L_69 : VW RL 69 RX4 yX4_level cX4_level 4 (some .int) 2 := ⟨gd_in (List.mem_append_right _ (List.mem_of_getElem? (i := 791) rfl)) rfl, gd_in (List.mem_append_right _ (List.mem_of_getElem? (i := 792) rfl)) rfl, gd_in (List.mem_append_right _ (List.mem_of_getElem? (i := 793) rfl)) rfl, gd_in (List.mem_append_right _ (List.mem_of_getElem? (i := 6) rfl)) rfl, gd_in (List.mem_append_right _ (List.mem_of_getElem? (i := 794) rfl)) rfl, by decide, by decide, by decide⟩
set_option maxRecDepth 20000 in
theorem mw_L_70 : VW RL 70 RX3 yX3_fewest cX3_fewest 6 (some .int) 1 := ⟨gd_in (List.mem_append_right _ (List.mem_of_getElem? (i := 405) rfl)) rfl, gd_in (List.mem_append_right _ (List.mem_of_getElem? (i := 406) rfl)) rfl, gd_in (List.mem_append_right _ (List.mem_of_getElem? (i := 407) rfl)) rfl, gd_in (List.mem_append_right _ (List.mem_of_getElem? (i := 1) rfl)) rfl, gd_in (List.mem_append_right _ (List.mem_of_getElem? (i := 408) rfl)) rfl, by decide, by decide, by decide⟩
set_option maxRecDepth 20000 in
theorem mw_L_73 : VW RL 73 RX4 yX4_fewest cX4_fewest 6 (some .int) 1 := ⟨gd_in (List.mem_append_right _ (List.mem_of_getElem? (i := 795) rfl)) rfl, gd_in (List.mem_append_right _ (List.mem_of_getElem? (i := 796) rfl)) rfl, gd_in (List.mem_append_right _ (List.mem_of_getElem? (i := 797) rfl)) rfl, gd_in (List.mem_append_right _ (List.mem_of_getElem? (i := 6) rfl)) rfl, gd_in (List.mem_append_right _ (List.mem_of_getElem? (i := 798) rfl)) rfl, by decide, by decide, by decide⟩
set_option maxRecDepth 20000 in
theorem mw_L_74 : VW RL 74 RX3 yX3_share cX3_share 3 (some .int) 0 := ⟨gd_in (List.mem_append_right _ (List.mem_of_getElem? (i := 413) rfl)) rfl, gd_in (List.mem_append_right _ (List.mem_of_getElem? (i := 414) rfl)) rfl, gd_in (List.mem_append_right _ (List.mem_of_getElem? (i := 415) rfl)) rfl, gd_in (List.mem_append_right _ (List.mem_of_getElem? (i := 1) rfl)) rfl, gd_in (List.mem_append_right _ (List.mem_of_getElem? (i := 416) rfl)) rfl, by decide, by decide, by decide⟩
set_option maxRecDepth 20000 in
theorem mw_L_77 : VW RL 77 RX4 yX4_share cX4_share 3 (some .int) 0 := ⟨gd_in (List.mem_append_right _ (List.mem_of_getElem? (i := 803) rfl)) rfl, gd_in (List.mem_append_right _ (List.mem_of_getElem? (i := 804) rfl)) rfl, gd_in (List.mem_append_right _ (List.mem_of_getElem? (i := 805) rfl)) rfl, gd_in (List.mem_append_right _ (List.mem_of_getElem? (i := 6) rfl)) rfl, gd_in (List.mem_append_right _ (List.mem_of_getElem? (i := 806) rfl)) rfl, by decide, by decide, by decide⟩
set_option maxRecDepth 20000 in
theorem mw_L_78 : VW RL 78 RX3 yX3_least cX3_least 2 (some .int) 1 := ⟨gd_in (List.mem_append_right _ (List.mem_of_getElem? (i := 418) rfl)) rfl, gd_in (List.mem_append_right _ (List.mem_of_getElem? (i := 419) rfl)) rfl, gd_in (List.mem_append_right _ (List.mem_of_getElem? (i := 420) rfl)) rfl, gd_in (List.mem_append_right _ (List.mem_of_getElem? (i := 1) rfl)) rfl, gd_in (List.mem_append_right _ (List.mem_of_getElem? (i := 421) rfl)) rfl, by decide, by decide, by decide⟩
set_option maxRecDepth 20000 in
theorem mw_L_81 : VW RL 81 RX4 yX4_least_ cX4_least_ 2 (some .int) 1 := ⟨gd_in (List.mem_append_right _ (List.mem_of_getElem? (i := 808) rfl)) rfl, gd_in (List.mem_append_right _ (List.mem_of_getElem? (i := 809) rfl)) rfl, gd_in (List.mem_append_right _ (List.mem_of_getElem? (i := 810) rfl)) rfl, gd_in (List.mem_append_right _ (List.mem_of_getElem? (i := 6) rfl)) rfl, gd_in (List.mem_append_right _ (List.mem_of_getElem? (i := 811) rfl)) rfl, by decide, by decide, by decide⟩
set_option maxRecDepth 20000 in
theorem mw_L_82 : VW RL 82 RX3 yX3_goes cX3_goes 3 (some .int) 2 := ⟨gd_in (List.mem_append_right _ (List.mem_of_getElem? (i := 460) rfl)) rfl, gd_in (List.mem_append_right _ (List.mem_of_getElem? (i := 461) rfl)) rfl, gd_in (List.mem_append_right _ (List.mem_of_getElem? (i := 462) rfl)) rfl, gd_in (List.mem_append_right _ (List.mem_of_getElem? (i := 1) rfl)) rfl, gd_in (List.mem_append_right _ (List.mem_of_getElem? (i := 463) rfl)) rfl, by decide, by decide, by decide⟩
set_option maxRecDepth 20000 in
theorem mw_L_85 : VW RL 85 RX4 yX4_goes cX4_goes 8 (some .int) 2 := ⟨gd_in (List.mem_append_right _ (List.mem_of_getElem? (i := 829) rfl)) rfl, gd_in (List.mem_append_right _ (List.mem_of_getElem? (i := 830) rfl)) rfl, gd_in (List.mem_append_right _ (List.mem_of_getElem? (i := 831) rfl)) rfl, gd_in (List.mem_append_right _ (List.mem_of_getElem? (i := 6) rfl)) rfl, gd_in (List.mem_append_right _ (List.mem_of_getElem? (i := 832) rfl)) rfl, by decide, by decide, by decide⟩
set_option maxRecDepth 20000 in
theorem mw_L_86 : VW RL 86 RX3 yX3_phases cX3_phases 2 (some .int) 1 := ⟨gd_in (List.mem_append_right _ (List.mem_of_getElem? (i := 464) rfl)) rfl, gd_in (List.mem_append_right _ (List.mem_of_getElem? (i := 465) rfl)) rfl, gd_in (List.mem_append_right _ (List.mem_of_getElem? (i := 466) rfl)) rfl, gd_in (List.mem_append_right _ (List.mem_of_getElem? (i := 1) rfl)) rfl, gd_in (List.mem_append_right _ (List.mem_of_getElem? (i := 467) rfl)) rfl, by decide, by decide, by decide⟩
set_option maxRecDepth 20000 in
theorem mw_L_89 : VW RL 89 RX4 yX4_phases cX4_phases 2 (some .int) 1 := ⟨gd_in (List.mem_append_right _ (List.mem_of_getElem? (i := 837) rfl)) rfl, gd_in (List.mem_append_right _ (List.mem_of_getElem? (i := 838) rfl)) rfl, gd_in (List.mem_append_right _ (List.mem_of_getElem? (i := 839) rfl)) rfl, gd_in (List.mem_append_right _ (List.mem_of_getElem? (i := 6) rfl)) rfl, gd_in (List.mem_append_right _ (List.mem_of_getElem? (i := 840) rfl)) rfl, by decide, by decide, by decide⟩
set_option maxRecDepth 20000 in
theorem mw_L_90 : VW RL 90 RX3 yX3_phase cX3_phase 3 (some .int) 2 := ⟨gd_in (List.mem_append_right _ (List.mem_of_getElem? (i := 472) rfl)) rfl, gd_in (List.mem_append_right _ (List.mem_of_getElem? (i := 473) rfl)) rfl, gd_in (List.mem_append_right _ (List.mem_of_getElem? (i := 474) rfl)) rfl, gd_in (List.mem_append_right _ (List.mem_of_getElem? (i := 1) rfl)) rfl, gd_in (List.mem_append_right _ (List.mem_of_getElem? (i := 475) rfl)) rfl, by decide, by decide, by decide⟩
set_option maxRecDepth 20000 in
theorem mw_L_93 : VW RL 93 RX4 yX4_phase cX4_phase 3 (some .int) 2 := ⟨gd_in (List.mem_append_right _ (List.mem_of_getElem? (i := 845) rfl)) rfl, gd_in (List.mem_append_right _ (List.mem_of_getElem? (i := 846) rfl)) rfl, gd_in (List.mem_append_right _ (List.mem_of_getElem? (i := 847) rfl)) rfl, gd_in (List.mem_append_right _ (List.mem_of_getElem? (i := 6) rfl)) rfl, gd_in (List.mem_append_right _ (List.mem_of_getElem? (i := 848) rfl)) rfl, by decide, by decide, by decide⟩
set_option maxRecDepth 20000 in
theorem mw_L_94 : VW RL 94 RX3 yX3_distance cX3_distance 2 (some .int) 1 := ⟨gd_in (List.mem_append_right _ (List.mem_of_getElem? (i := 476) rfl)) rfl, gd_in (List.mem_append_right _ (List.mem_of_getElem? (i := 477) rfl)) rfl, gd_in (List.mem_append_right _ (List.mem_of_getElem? (i := 478) rfl)) rfl, gd_in (List.mem_append_right _ (List.mem_of_getElem? (i := 1) rfl)) rfl, gd_in (List.mem_append_right _ (List.mem_of_getElem? (i := 479) rfl)) rfl, by decide, by decide, by decide⟩
set_option maxRecDepth 20000 in
theorem mw_L_97 : VW RL 97 RX4 yX4_distance cX4_distance 2 (some .int) 1 := ⟨gd_in (List.mem_append_right _ (List.mem_of_getElem? (i := 849) rfl)) rfl, gd_in (List.mem_append_right _ (List.mem_of_getElem? (i := 850) rfl)) rfl, gd_in (List.mem_append_right _ (List.mem_of_getElem? (i := 851) rfl)) rfl, gd_in (List.mem_append_right _ (List.mem_of_getElem? (i := 6) rfl)) rfl, gd_in (List.mem_append_right _ (List.mem_of_getElem? (i := 852) rfl)) rfl, by decide, by decide, by decide⟩
set_option maxRecDepth 20000 in
theorem mw_L_98 : VW RL 98 RX3 yX3_curve cX3_curve 5 (some .int) 1 := ⟨gd_in (List.mem_append_right _ (List.mem_of_getElem? (i := 484) rfl)) rfl, gd_in (List.mem_append_right _ (List.mem_of_getElem? (i := 485) rfl)) rfl, gd_in (List.mem_append_right _ (List.mem_of_getElem? (i := 486) rfl)) rfl, gd_in (List.mem_append_right _ (List.mem_of_getElem? (i := 1) rfl)) rfl, gd_in (List.mem_append_right _ (List.mem_of_getElem? (i := 487) rfl)) rfl, by decide, by decide, by decide⟩
set_option maxRecDepth 20000 in
theorem mw_L_101 : VW RL 101 RX4 yX4_curve cX4_curve 5 (some .int) 1 := ⟨gd_in (List.mem_append_right _ (List.mem_of_getElem? (i := 857) rfl)) rfl, gd_in (List.mem_append_right _ (List.mem_of_getElem? (i := 858) rfl)) rfl, gd_in (List.mem_append_right _ (List.mem_of_getElem? (i := 859) rfl)) rfl, gd_in (List.mem_append_right _ (List.mem_of_getElem? (i := 6) rfl)) rfl, gd_in (List.mem_append_right _ (List.mem_of_getElem? (i := 860) rfl)) rfl, by decide, by decide, by decide⟩
set_option maxRecDepth 20000 in
theorem mw_L_102 : VW RL 102 RX3 yX3_hard cX3_hard 5 (some .int) 3 := ⟨gd_in (List.mem_append_right _ (List.mem_of_getElem? (i := 488) rfl)) rfl, gd_in (List.mem_append_right _ (List.mem_of_getElem? (i := 489) rfl)) rfl, gd_in (List.mem_append_right _ (List.mem_of_getElem? (i := 490) rfl)) rfl, gd_in (List.mem_append_right _ (List.mem_of_getElem? (i := 1) rfl)) rfl, gd_in (List.mem_append_right _ (List.mem_of_getElem? (i := 491) rfl)) rfl, by decide, by decide, by decide⟩
set_option maxRecDepth 20000 in
theorem mw_L_105 : VW RL 105 RX4 yX4_hard cX4_hard 6 (some .int) 3 := ⟨gd_in (List.mem_append_right _ (List.mem_of_getElem? (i := 861) rfl)) rfl, gd_in (List.mem_append_right _ (List.mem_of_getElem? (i := 862) rfl)) rfl, gd_in (List.mem_append_right _ (List.mem_of_getElem? (i := 863) rfl)) rfl, gd_in (List.mem_append_right _ (List.mem_of_getElem? (i := 6) rfl)) rfl, gd_in (List.mem_append_right _ (List.mem_of_getElem? (i := 864) rfl)) rfl, by decide, by decide, by decide⟩
set_option maxRecDepth 20000 in
theorem mw_L_106 : VW RL 106 RX3 yX3_claim cX3_claim 2 (some .int) 1 := ⟨gd_in (List.mem_append_right _ (List.mem_of_getElem? (i := 496) rfl)) rfl, gd_in (List.mem_append_right _ (List.mem_of_getElem? (i := 497) rfl)) rfl, gd_in (List.mem_append_right _ (List.mem_of_getElem? (i := 498) rfl)) rfl, gd_in (List.mem_append_right _ (List.mem_of_getElem? (i := 1) rfl)) rfl, gd_in (List.mem_append_right _ (List.mem_of_getElem? (i := 499) rfl)) rfl, by decide, by decide, by decide⟩
set_option maxRecDepth 20000 in
theorem mw_L_109 : VW RL 109 RX4 yX4_claim cX4_claim 2 (some .int) 1 := ⟨gd_in (List.mem_append_right _ (List.mem_of_getElem? (i := 865) rfl)) rfl, gd_in (List.mem_append_right _ (List.mem_of_getElem? (i := 866) rfl)) rfl, gd_in (List.mem_append_right _ (List.mem_of_getElem? (i := 867) rfl)) rfl, gd_in (List.mem_append_right _ (List.mem_of_getElem? (i := 6) rfl)) rfl, gd_in (List.mem_append_right _ (List.mem_of_getElem? (i := 868) rfl)) rfl, by decide, by decide, by decide⟩
set_option maxRecDepth 20000 in
theorem mw_L_110 : VW RL 110 RX3 yX3_copy cX3_copy 1 (some .int) 0 := ⟨gd_in (List.mem_append_right _ (List.mem_of_getElem? (i := 500) rfl)) rfl, gd_in (List.mem_append_right _ (List.mem_of_getElem? (i := 501) rfl)) rfl, gd_in (List.mem_append_right _ (List.mem_of_getElem? (i := 502) rfl)) rfl, gd_in (List.mem_append_right _ (List.mem_of_getElem? (i := 1) rfl)) rfl, gd_in (List.mem_append_right _ (List.mem_of_getElem? (i := 503) rfl)) rfl, by decide, by decide, by decide⟩
set_option maxRecDepth 20000 in
theorem mw_L_113 : VW RL 113 RX4 yX4_copy cX4_copy 2 (some .int) 0 := ⟨gd_in (List.mem_append_right _ (List.mem_of_getElem? (i := 869) rfl)) rfl, gd_in (List.mem_append_right _ (List.mem_of_getElem? (i := 870) rfl)) rfl, gd_in (List.mem_append_right _ (List.mem_of_getElem? (i := 871) rfl)) rfl, gd_in (List.mem_append_right _ (List.mem_of_getElem? (i := 6) rfl)) rfl, gd_in (List.mem_append_right _ (List.mem_of_getElem? (i := 872) rfl)) rfl, by decide, by decide, by decide⟩
set_option maxRecDepth 20000 in
theorem mw_L_114 : VW RL 114 RX3 yX3_unclaim cX3_unclaim 2 (some .int) 0 := ⟨gd_in (List.mem_append_right _ (List.mem_of_getElem? (i := 507) rfl)) rfl, gd_in (List.mem_append_right _ (List.mem_of_getElem? (i := 508) rfl)) rfl, gd_in (List.mem_append_right _ (List.mem_of_getElem? (i := 509) rfl)) rfl, gd_in (List.mem_append_right _ (List.mem_of_getElem? (i := 1) rfl)) rfl, gd_in (List.mem_append_right _ (List.mem_of_getElem? (i := 510) rfl)) rfl, by decide, by decide, by decide⟩
set_option maxRecDepth 20000 in
theorem mw_L_117 : VW RL 117 RX4 yX4_unclaim cX4_unclaim 2 (some .int) 0 := ⟨gd_in (List.mem_append_right _ (List.mem_of_getElem? (i := 873) rfl)) rfl, gd_in (List.mem_append_right _ (List.mem_of_getElem? (i := 874) rfl)) rfl, gd_in (List.mem_append_right _ (List.mem_of_getElem? (i := 875) rfl)) rfl, gd_in (List.mem_append_right _ (List.mem_of_getElem? (i := 6) rfl)) rfl, gd_in (List.mem_append_right _ (List.mem_of_getElem? (i := 876) rfl)) rfl, by decide, by decide, by decide⟩
set_option maxRecDepth 20000 in
theorem mw_L_118 : VW RL 118 RX3 yX3_cost cX3_cost 6 (some .int) 1 := ⟨gd_in (List.mem_append_right _ (List.mem_of_getElem? (i := 511) rfl)) rfl, gd_in (List.mem_append_right _ (List.mem_of_getElem? (i := 512) rfl)) rfl, gd_in (List.mem_append_right _ (List.mem_of_getElem? (i := 513) rfl)) rfl, gd_in (List.mem_append_right _ (List.mem_of_getElem? (i := 1) rfl)) rfl, gd_in (List.mem_append_right _ (List.mem_of_getElem? (i := 514) rfl)) rfl, by decide, by decide, by decide⟩
set_option maxRecDepth 20000 in
theorem mw_L_121 : VW RL 121 RX4 yX4_cost cX4_cost 9 (some .int) 1 := ⟨gd_in (List.mem_append_right _ (List.mem_of_getElem? (i := 877) rfl)) rfl, gd_in (List.mem_append_right _ (List.mem_of_getElem? (i := 878) rfl)) rfl, gd_in (List.mem_append_right _ (List.mem_of_getElem? (i := 879) rfl)) rfl, gd_in (List.mem_append_right _ (List.mem_of_getElem? (i := 6) rfl)) rfl, gd_in (List.mem_append_right _ (List.mem_of_getElem? (i := 880) rfl)) rfl, by decide, by decide, by decide⟩
set_option maxRecDepth 20000 in
theorem mw_L_122 : VW RL 122 RX3 yX3_check cX3_check 4 (some .int) 2 := ⟨gd_in (List.mem_append_right _ (List.mem_of_getElem? (i := 519) rfl)) rfl, gd_in (List.mem_append_right _ (List.mem_of_getElem? (i := 520) rfl)) rfl, gd_in (List.mem_append_right _ (List.mem_of_getElem? (i := 521) rfl)) rfl, gd_in (List.mem_append_right _ (List.mem_of_getElem? (i := 1) rfl)) rfl, gd_in (List.mem_append_right _ (List.mem_of_getElem? (i := 522) rfl)) rfl, by decide, by decide, by decide⟩
set_option maxRecDepth 20000 in
theorem mw_L_125 : VW RL 125 RX4 yX4_check cX4_check 4 (some .int) 2 := ⟨gd_in (List.mem_append_right _ (List.mem_of_getElem? (i := 881) rfl)) rfl, gd_in (List.mem_append_right _ (List.mem_of_getElem? (i := 882) rfl)) rfl, gd_in (List.mem_append_right _ (List.mem_of_getElem? (i := 883) rfl)) rfl, gd_in (List.mem_append_right _ (List.mem_of_getElem? (i := 6) rfl)) rfl, gd_in (List.mem_append_right _ (List.mem_of_getElem? (i := 884) rfl)) rfl, by decide, by decide, by decide⟩
set_option maxRecDepth 100000 in
theorem pr_LJ {y : ClassId × ClassId × ClassId} {q qm : Nat → Nat} {Y : (St × St × St × St × St) × St} : PR (wL y q qm Y) ((wJ y (q)) Y.1) (wJ y (q)) (fun u => wL y q qm ((fun u => (u, Y.2)) u)) [0, 1, 2, 3, 4, 5, 6, 7, 8, 9, 10, 11, 12, 13, 14, 15, 16, 17, 18, 19, 20, 21, 22, 23, 24, 25, 26, 27, 28, 29, 30, 31, 32, 33, 34, 35] [36, 37, 38, 39, 40, 41, 42, 43, 44, 45, 46, 47, 48, 49, 50, 51, 52, 53, 54, 55] [20, 21, 22, 23, 24, 25, 26, 27, 28, 29, 30, 31, 32, 33, 34, 35, 36, 37, 38, 39, 40, 41, 42, 43, 44, 45, 46, 47, 48, 49, 50, 51, 52, 53, 54, 55, 0, 1, 2, 3, 4, 5, 6, 7, 8, 9, 10, 11, 12, 13, 14, 15, 16, 17, 18, 19] (([36, 37, 38, 39, 40, 41, 42, 43, 44, 45, 46, 47, 48, 49, 50, 51, 52, 53, 54, 55] : List Nat).filterMap (fun i => (wL y q qm Y)[i]?)) := ⟨rfl, rfl, rfl, rfl, by decide, rfl, fun u => rfl⟩
set_option maxRecDepth 100000 in
theorem ci_LJ {O : Type} {X : Cx} {cc : ByteArray} {own : String} {rm : Room} {ret : Option FieldType} {D : va_G} {y : ClassId × ClassId × ClassId} {z : Nat × Nat} {Q : O → State → Prop} {F : Int → (St × St × St × St × St) × St → Option O} {fc : Option (Int × (St × St × St × St × St))} {retc : Option FieldType} {pc pc' : Nat} {lv : List (Option Value)} {st rest As : List Value} {idx n : Nat} {yy : MethodName} {bytes : ByteArray} {maxL : Nat} {rmc : Room} {q qm : Nat → Nat} {Y : (St × St × St × St × St) × St} (hX : OKX X cc own rm ret D y) (hM : CtI (cxl X) D y yy bytes maxL retc rmc (.ref (q 0) :: As) (wJ y (q)) Y.1 fc) (hw : VW own idx RX3 yy bytes maxL retc n) (hrm : RoomOK rmc rm maxL z) (hn : As.length = n) (hst : st = As.reverse ++ .ref (q 0) :: rest) (hrest : (rest.map fun v => v.category).sum ≤ 8) (hd : decode cc pc = .ok (.invokevirtual idx, 3)) (hp : pc + 3 = pc') (k : ∀ r Y1, GF X cc D z Q (F r Y1) pc' lv (.int (iz r) :: rest) (wL y q qm Y1)) : GF X cc D z Q (cls fc (fun u => (u, Y.2)) F) pc lv st (wL y q qm Y) := g_calli (w := wL y q qm) hX hM pr_LJ rfl rfl hw hrm hn hst hrest hd hp k
set_option maxRecDepth 100000 in
theorem cv_LJ {O : Type} {X : Cx} {cc : ByteArray} {own : String} {rm : Room} {ret : Option FieldType} {D : va_G} {y : ClassId × ClassId × ClassId} {z : Nat × Nat} {Q : O → State → Prop} {F : (St × St × St × St × St) × St → Option O} {fc : Option (St × St × St × St × St)} {pc pc' : Nat} {lv : List (Option Value)} {st rest As : List Value} {idx n : Nat} {yy : MethodName} {bytes : ByteArray} {maxL : Nat} {rmc : Room} {q qm : Nat → Nat} {Y : (St × St × St × St × St) × St} (hX : OKX X cc own rm ret D y) (hM : CtV (cxl X) D y yy bytes maxL rmc (.ref (q 0) :: As) (wJ y (q)) Y.1 fc) (hw : VW own idx RX3 yy bytes maxL none n) (hrm : RoomOK rmc rm maxL z) (hn : As.length = n) (hst : st = As.reverse ++ .ref (q 0) :: rest) (hrest : (rest.map fun v => v.category).sum ≤ 8) (hd : decode cc pc = .ok (.invokevirtual idx, 3)) (hp : pc + 3 = pc') (k : ∀ Y1, GF X cc D z Q (F Y1) pc' lv rest (wL y q qm Y1)) : GF X cc D z Q (clv fc (fun u => (u, Y.2)) F) pc lv st (wL y q qm Y) := g_callv (w := wL y q qm) hX hM pr_LJ rfl rfl hw hrm hn hst hrest hd hp k
set_option maxRecDepth 100000 in
theorem pr_LM {y : ClassId × ClassId × ClassId} {q qm : Nat → Nat} {Y : (St × St × St × St × St) × St} : PR (wL y q qm Y) ((wM y (qm)) Y.2) (wM y (qm)) (fun u => wL y q qm ((fun u => (Y.1, u)) u)) [36, 37, 38, 39, 40, 41, 42, 43, 44, 45, 46, 47, 48, 49, 50, 51, 52, 53, 54, 55] [0, 1, 2, 3, 4, 5, 6, 7, 8, 9, 10, 11, 12, 13, 14, 15, 16, 17, 18, 19, 20, 21, 22, 23, 24, 25, 26, 27, 28, 29, 30, 31, 32, 33, 34, 35] [0, 1, 2, 3, 4, 5, 6, 7, 8, 9, 10, 11, 12, 13, 14, 15, 16, 17, 18, 19, 20, 21, 22, 23, 24, 25, 26, 27, 28, 29, 30, 31, 32, 33, 34, 35, 36, 37, 38, 39, 40, 41, 42, 43, 44, 45, 46, 47, 48, 49, 50, 51, 52, 53, 54, 55] (([0, 1, 2, 3, 4, 5, 6, 7, 8, 9, 10, 11, 12, 13, 14, 15, 16, 17, 18, 19, 20, 21, 22, 23, 24, 25, 26, 27, 28, 29, 30, 31, 32, 33, 34, 35] : List Nat).filterMap (fun i => (wL y q qm Y)[i]?)) := ⟨rfl, rfl, rfl, rfl, by decide, rfl, fun u => rfl⟩
set_option maxRecDepth 100000 in
theorem ci_LM {O : Type} {X : Cx} {cc : ByteArray} {own : String} {rm : Room} {ret : Option FieldType} {D : va_G} {y : ClassId × ClassId × ClassId} {z : Nat × Nat} {Q : O → State → Prop} {F : Int → (St × St × St × St × St) × St → Option O} {fc : Option (Int × (St))} {retc : Option FieldType} {pc pc' : Nat} {lv : List (Option Value)} {st rest As : List Value} {idx n : Nat} {yy : MethodName} {bytes : ByteArray} {maxL : Nat} {rmc : Room} {q qm : Nat → Nat} {Y : (St × St × St × St × St) × St} (hX : OKX X cc own rm ret D y) (hM : CtI (cxl X) D y yy bytes maxL retc rmc (.ref (qm 0) :: As) (wM y (qm)) Y.2 fc) (hw : VW own idx RX4 yy bytes maxL retc n) (hrm : RoomOK rmc rm maxL z) (hn : As.length = n) (hst : st = As.reverse ++ .ref (qm 0) :: rest) (hrest : (rest.map fun v => v.category).sum ≤ 8) (hd : decode cc pc = .ok (.invokevirtual idx, 3)) (hp : pc + 3 = pc') (k : ∀ r Y1, GF X cc D z Q (F r Y1) pc' lv (.int (iz r) :: rest) (wL y q qm Y1)) : GF X cc D z Q (cls fc (fun u => (Y.1, u)) F) pc lv st (wL y q qm Y) := g_calli (w := wL y q qm) hX hM pr_LM rfl rfl hw hrm hn hst hrest hd hp k
set_option maxRecDepth 100000 in
theorem cv_LM {O : Type} {X : Cx} {cc : ByteArray} {own : String} {rm : Room} {ret : Option FieldType} {D : va_G} {y : ClassId × ClassId × ClassId} {z : Nat × Nat} {Q : O → State → Prop} {F : (St × St × St × St × St) × St → Option O} {fc : Option (St)} {pc pc' : Nat} {lv : List (Option Value)} {st rest As : List Value} {idx n : Nat} {yy : MethodName} {bytes : ByteArray} {maxL : Nat} {rmc : Room} {q qm : Nat → Nat} {Y : (St × St × St × St × St) × St} (hX : OKX X cc own rm ret D y) (hM : CtV (cxl X) D y yy bytes maxL rmc (.ref (qm 0) :: As) (wM y (qm)) Y.2 fc) (hw : VW own idx RX4 yy bytes maxL none n) (hrm : RoomOK rmc rm maxL z) (hn : As.length = n) (hst : st = As.reverse ++ .ref (qm 0) :: rest) (hrest : (rest.map fun v => v.category).sum ≤ 8) (hd : decode cc pc = .ok (.invokevirtual idx, 3)) (hp : pc + 3 = pc') (k : ∀ Y1, GF X cc D z Q (F Y1) pc' lv rest (wL y q qm Y1)) : GF X cc D z Q (clv fc (fun u => (Y.1, u)) F) pc lv st (wL y q qm Y) := g_callv (w := wL y q qm) hX hM pr_LM rfl rfl hw hrm hn hst hrest hd hp k
set_option maxRecDepth 100000 in
theorem wL_law_907 {X : Cx} {D : va_G} {y : ClassId × ClassId × ClassId} {q qm : Nat → Nat} {b L : Nat} {xs : Nat → Int} {Q : Unit → State → Prop} (hX : OKX X cL_law RL room_1 (some .boolean) D y) (hb : SX X b L xs) (hend : ∀ lv ws, GF X cL_law D (56, 318923) Q (some ()) 914 lv [.int (iz 1)] ws) {k_18 : Int → ((St × St × St × St × St) × St) → Option Unit} (hk_18 : ∀ (v3 : Int) (Y : (St × St × St × St × St) × St), GF X cL_law D (56, 318923) Q (k_18 v3 Y) 18 [some (.ref b), some (.ref (q 0)), some (.ref (qm 0)), some (.int (iz v3))] [] (wL y q qm Y)) (v3 : Int) (Y : (St × St × St × St × St) × St) : GF X cL_law D (56, 318923) Q (fL_law_j907 L xs k_18 v3 Y) 907 [some (.ref b), some (.ref (q 0)), some (.ref (qm 0)), some (.int (iz v3))] [] (wL y q qm Y) := by
  unfold fL_law_j907
  refine g_iinc (lv' := fun x101 => [some (.ref b), some (.ref (q 0)), some (.ref (qm 0)), some (.int (iz x101))]) hX dL_law_907 (rfl : 907 + 3 = 910) rfl (fun _ => rfl) (fun x101 => ?_)
  refine g_goto (pc' := 18) hX dL_law_910 (by decide) ?_
  exact hk_18 x101 Y
set_option maxRecDepth 100000 in
set_option maxHeartbeats 4000000 in
theorem wL_law_18 {X : Cx} {D : va_G} {y : ClassId × ClassId × ClassId} {q qm : Nat → Nat} {b L : Nat} {xs : Nat → Int} {Q : Unit → State → Prop} (hX : OKX X cL_law RL room_1 (some .boolean) D y) (hb : SX X b L xs) (hend : ∀ lv ws, GF X cL_law D (56, 318923) Q (some ()) 914 lv [.int (iz 1)] ws) : ∀ (n : Nat) (v3 : Int) (Y : (St × St × St × St × St) × St), GF X cL_law D (56, 318923) Q (fL_law_l18 L xs n v3 Y) 18 [some (.ref b), some (.ref (q 0)), some (.ref (qm 0)), some (.int (iz v3))] [] (wL y q qm Y) := by
  intro n
  induction n with
  | zero => intro v3 Y; exact g_none
  | succ n hk_18 =>
    intro v3 Y
    unfold fL_law_l18
    refine g_iload_n hX dL_law_18 (rfl : 18 + 1 = 19) rfl ?_
    refine g_aload_n hX dL_law_19 (rfl : 19 + 1 = 20) rfl ?_
    refine g_slen hX hb dL_law_20 (rfl : 20 + 1 = 21) ?_
    refine g_bipush hX dL_law_21 (by decide) (rfl : 21 + 2 = 23) ?_
    refine g_isub hX dL_law_23 (rfl : 23 + 1 = 24) ?_
    refine g_icmp_gt (tgt := 913) hX dL_law_24 (by decide) (rfl : 24 + 3 = 27) ?_ ?_
    · refine g_iconst hX dL_law_913 (rfl : 913 + 1 = 914) ?_
      exact hend _ _
    · refine g_aload_n hX dL_law_27 (rfl : 27 + 1 = 28) rfl ?_
      refine g_iload_n hX dL_law_28 (rfl : 28 + 1 = 29) rfl ?_
      refine g_sld hX hb dL_law_29 (rfl : 29 + 1 = 30) ?_
      refine g_bipush hX dL_law_30 (by decide) (rfl : 30 + 2 = 32) ?_
      refine g_iand hX dL_law_32 (rfl : 32 + 1 = 33) ?_
      refine g_ite (fun c102 => ?_) (fun c102 => ?_)
      · refine g_tab (tgt := 156) hX c102 dL_law_33 (by decide) (by decide) rfl (by decide) ?_
        refine g_aload_n hX dL_law_156 (rfl : 156 + 1 = 157) rfl ?_
        refine g_aload_n hX dL_law_157 (rfl : 157 + 1 = 158) rfl ?_
        refine g_iload_n hX dL_law_158 (rfl : 158 + 1 = 159) rfl ?_
        refine g_iconst hX dL_law_159 (rfl : 159 + 1 = 160) ?_
        refine g_iadd hX dL_law_160 (rfl : 160 + 1 = 161) ?_
        refine g_sld hX hb dL_law_161 (rfl : 161 + 1 = 162) ?_
        refine g_aload_n hX dL_law_162 (rfl : 162 + 1 = 163) rfl ?_
        refine g_iload_n hX dL_law_163 (rfl : 163 + 1 = 164) rfl ?_
        refine g_iconst hX dL_law_164 (rfl : 164 + 1 = 165) ?_
        refine g_iadd hX dL_law_165 (rfl : 165 + 1 = 166) ?_
        refine g_sld hX hb dL_law_166 (rfl : 166 + 1 = 167) ?_
        refine ci_LJ hX (kX3_price _ _ _ (q) _ _ _) mw_L_13 (by decide) rfl rfl (Nat.le_of_ble_eq_true rfl) dL_law_167 (rfl : 167 + 3 = 170) (fun r104 Y103 => ?_)
        refine g_aload_n hX dL_law_170 (rfl : 170 + 1 = 171) rfl ?_
        refine g_aload_n hX dL_law_171 (rfl : 171 + 1 = 172) rfl ?_
        refine g_iload_n hX dL_law_172 (rfl : 172 + 1 = 173) rfl ?_
        refine g_iconst hX dL_law_173 (rfl : 173 + 1 = 174) ?_
        refine g_iadd hX dL_law_174 (rfl : 174 + 1 = 175) ?_
        refine g_sld hX hb dL_law_175 (rfl : 175 + 1 = 176) ?_
        refine g_aload_n hX dL_law_176 (rfl : 176 + 1 = 177) rfl ?_
        refine g_iload_n hX dL_law_177 (rfl : 177 + 1 = 178) rfl ?_
        refine g_iconst hX dL_law_178 (rfl : 178 + 1 = 179) ?_
        refine g_iadd hX dL_law_179 (rfl : 179 + 1 = 180) ?_
        refine g_sld hX hb dL_law_180 (rfl : 180 + 1 = 181) ?_
        refine ci_LM hX (kX4_price _ _ _ (qm) _ _ _) mw_L_17 (by decide) rfl rfl (Nat.le_of_ble_eq_true rfl) dL_law_181 (rfl : 181 + 3 = 184) (fun r106 Y105 => ?_)
        refine g_icmp_eq (tgt := 907) hX dL_law_184 (by decide) (rfl : 184 + 3 = 187) ?_ ?_
        · exact wL_law_907 hX hb hend hk_18 v3 Y105
        · exact g_none
      refine g_ite (fun c107 => ?_) (fun c107 => ?_)
      · refine g_tab (tgt := 189) hX c107 dL_law_33 (by decide) (by decide) rfl (by decide) ?_
        refine g_aload_n hX dL_law_189 (rfl : 189 + 1 = 190) rfl ?_
        refine g_aload_n hX dL_law_190 (rfl : 190 + 1 = 191) rfl ?_
        refine g_iload_n hX dL_law_191 (rfl : 191 + 1 = 192) rfl ?_
        refine g_iconst hX dL_law_192 (rfl : 192 + 1 = 193) ?_
        refine g_iadd hX dL_law_193 (rfl : 193 + 1 = 194) ?_
        refine g_sld hX hb dL_law_194 (rfl : 194 + 1 = 195) ?_
        refine g_aload_n hX dL_law_195 (rfl : 195 + 1 = 196) rfl ?_
        refine g_iload_n hX dL_law_196 (rfl : 196 + 1 = 197) rfl ?_
        refine g_iconst hX dL_law_197 (rfl : 197 + 1 = 198) ?_
        refine g_iadd hX dL_law_198 (rfl : 198 + 1 = 199) ?_
        refine g_sld hX hb dL_law_199 (rfl : 199 + 1 = 200) ?_
        refine g_aload_n hX dL_law_200 (rfl : 200 + 1 = 201) rfl ?_
        refine g_iload_n hX dL_law_201 (rfl : 201 + 1 = 202) rfl ?_
        refine g_iconst hX dL_law_202 (rfl : 202 + 1 = 203) ?_
        refine g_iadd hX dL_law_203 (rfl : 203 + 1 = 204) ?_
        refine g_sld hX hb dL_law_204 (rfl : 204 + 1 = 205) ?_
        refine g_aload_n hX dL_law_205 (rfl : 205 + 1 = 206) rfl ?_
        refine g_iload_n hX dL_law_206 (rfl : 206 + 1 = 207) rfl ?_
        refine g_iconst hX dL_law_207 (rfl : 207 + 1 = 208) ?_
        refine g_iadd hX dL_law_208 (rfl : 208 + 1 = 209) ?_
        refine g_sld hX hb dL_law_209 (rfl : 209 + 1 = 210) ?_
        refine g_aload_n hX dL_law_210 (rfl : 210 + 1 = 211) rfl ?_
        refine g_iload_n hX dL_law_211 (rfl : 211 + 1 = 212) rfl ?_
        refine g_iconst hX dL_law_212 (rfl : 212 + 1 = 213) ?_
        refine g_iadd hX dL_law_213 (rfl : 213 + 1 = 214) ?_
        refine g_sld hX hb dL_law_214 (rfl : 214 + 1 = 215) ?_
        refine ci_LJ hX (kX3_ask _ _ _ (q) _ _ _ _ _ _) mw_L_18 (by decide) rfl rfl (Nat.le_of_ble_eq_true rfl) dL_law_215 (rfl : 215 + 3 = 218) (fun r109 Y108 => ?_)
        refine g_aload_n hX dL_law_218 (rfl : 218 + 1 = 219) rfl ?_
        refine g_aload_n hX dL_law_219 (rfl : 219 + 1 = 220) rfl ?_
        refine g_iload_n hX dL_law_220 (rfl : 220 + 1 = 221) rfl ?_
        refine g_iconst hX dL_law_221 (rfl : 221 + 1 = 222) ?_
        refine g_iadd hX dL_law_222 (rfl : 222 + 1 = 223) ?_
        refine g_sld hX hb dL_law_223 (rfl : 223 + 1 = 224) ?_
        refine g_aload_n hX dL_law_224 (rfl : 224 + 1 = 225) rfl ?_
        refine g_iload_n hX dL_law_225 (rfl : 225 + 1 = 226) rfl ?_
        refine g_iconst hX dL_law_226 (rfl : 226 + 1 = 227) ?_
        refine g_iadd hX dL_law_227 (rfl : 227 + 1 = 228) ?_
        refine g_sld hX hb dL_law_228 (rfl : 228 + 1 = 229) ?_
        refine g_aload_n hX dL_law_229 (rfl : 229 + 1 = 230) rfl ?_
        refine g_iload_n hX dL_law_230 (rfl : 230 + 1 = 231) rfl ?_
        refine g_iconst hX dL_law_231 (rfl : 231 + 1 = 232) ?_
        refine g_iadd hX dL_law_232 (rfl : 232 + 1 = 233) ?_
        refine g_sld hX hb dL_law_233 (rfl : 233 + 1 = 234) ?_
        refine g_aload_n hX dL_law_234 (rfl : 234 + 1 = 235) rfl ?_
        refine g_iload_n hX dL_law_235 (rfl : 235 + 1 = 236) rfl ?_
        refine g_iconst hX dL_law_236 (rfl : 236 + 1 = 237) ?_
        refine g_iadd hX dL_law_237 (rfl : 237 + 1 = 238) ?_
        refine g_sld hX hb dL_law_238 (rfl : 238 + 1 = 239) ?_
        refine g_aload_n hX dL_law_239 (rfl : 239 + 1 = 240) rfl ?_
        refine g_iload_n hX dL_law_240 (rfl : 240 + 1 = 241) rfl ?_
        refine g_iconst hX dL_law_241 (rfl : 241 + 1 = 242) ?_
        refine g_iadd hX dL_law_242 (rfl : 242 + 1 = 243) ?_
        refine g_sld hX hb dL_law_243 (rfl : 243 + 1 = 244) ?_
        refine ci_LM hX (kX4_ask _ _ _ (qm) _ _ _ _ _ _) mw_L_22 (by decide) rfl rfl (Nat.le_of_ble_eq_true rfl) dL_law_244 (rfl : 244 + 3 = 247) (fun r111 Y110 => ?_)
        refine g_icmp_eq (tgt := 907) hX dL_law_247 (by decide) (rfl : 247 + 3 = 250) ?_ ?_
        · exact wL_law_907 hX hb hend hk_18 v3 Y110
        · exact g_none
      refine g_ite (fun c112 => ?_) (fun c112 => ?_)
      · refine g_tab (tgt := 252) hX c112 dL_law_33 (by decide) (by decide) rfl (by decide) ?_
        refine g_aload_n hX dL_law_252 (rfl : 252 + 1 = 253) rfl ?_
        refine g_aload_n hX dL_law_253 (rfl : 253 + 1 = 254) rfl ?_
        refine g_iload_n hX dL_law_254 (rfl : 254 + 1 = 255) rfl ?_
        refine g_iconst hX dL_law_255 (rfl : 255 + 1 = 256) ?_
        refine g_iadd hX dL_law_256 (rfl : 256 + 1 = 257) ?_
        refine g_sld hX hb dL_law_257 (rfl : 257 + 1 = 258) ?_
        refine g_aload_n hX dL_law_258 (rfl : 258 + 1 = 259) rfl ?_
        refine g_iload_n hX dL_law_259 (rfl : 259 + 1 = 260) rfl ?_
        refine g_iconst hX dL_law_260 (rfl : 260 + 1 = 261) ?_
        refine g_iadd hX dL_law_261 (rfl : 261 + 1 = 262) ?_
        refine g_sld hX hb dL_law_262 (rfl : 262 + 1 = 263) ?_
        refine g_aload_n hX dL_law_263 (rfl : 263 + 1 = 264) rfl ?_
        refine g_iload_n hX dL_law_264 (rfl : 264 + 1 = 265) rfl ?_
        refine g_iconst hX dL_law_265 (rfl : 265 + 1 = 266) ?_
        refine g_iadd hX dL_law_266 (rfl : 266 + 1 = 267) ?_
        refine g_sld hX hb dL_law_267 (rfl : 267 + 1 = 268) ?_
        refine ci_LJ hX (kX3_draw _ _ _ (q) _ _ _ _) mw_L_23 (by decide) rfl rfl (Nat.le_of_ble_eq_true rfl) dL_law_268 (rfl : 268 + 3 = 271) (fun r114 Y113 => ?_)
        refine g_aload_n hX dL_law_271 (rfl : 271 + 1 = 272) rfl ?_
        refine g_aload_n hX dL_law_272 (rfl : 272 + 1 = 273) rfl ?_
        refine g_iload_n hX dL_law_273 (rfl : 273 + 1 = 274) rfl ?_
        refine g_iconst hX dL_law_274 (rfl : 274 + 1 = 275) ?_
        refine g_iadd hX dL_law_275 (rfl : 275 + 1 = 276) ?_
        refine g_sld hX hb dL_law_276 (rfl : 276 + 1 = 277) ?_
        refine g_aload_n hX dL_law_277 (rfl : 277 + 1 = 278) rfl ?_
        refine g_iload_n hX dL_law_278 (rfl : 278 + 1 = 279) rfl ?_
        refine g_iconst hX dL_law_279 (rfl : 279 + 1 = 280) ?_
        refine g_iadd hX dL_law_280 (rfl : 280 + 1 = 281) ?_
        refine g_sld hX hb dL_law_281 (rfl : 281 + 1 = 282) ?_
        refine g_aload_n hX dL_law_282 (rfl : 282 + 1 = 283) rfl ?_
        refine g_iload_n hX dL_law_283 (rfl : 283 + 1 = 284) rfl ?_
        refine g_iconst hX dL_law_284 (rfl : 284 + 1 = 285) ?_
        refine g_iadd hX dL_law_285 (rfl : 285 + 1 = 286) ?_
        refine g_sld hX hb dL_law_286 (rfl : 286 + 1 = 287) ?_
        refine ci_LM hX (kX4_draw _ _ _ (qm) _ _ _ _) mw_L_27 (by decide) rfl rfl (Nat.le_of_ble_eq_true rfl) dL_law_287 (rfl : 287 + 3 = 290) (fun r116 Y115 => ?_)
        refine g_icmp_eq (tgt := 907) hX dL_law_290 (by decide) (rfl : 290 + 3 = 293) ?_ ?_
        · exact wL_law_907 hX hb hend hk_18 v3 Y115
        · exact g_none
      refine g_ite (fun c117 => ?_) (fun c117 => ?_)
      · refine g_tab (tgt := 295) hX c117 dL_law_33 (by decide) (by decide) rfl (by decide) ?_
        refine g_aload_n hX dL_law_295 (rfl : 295 + 1 = 296) rfl ?_
        refine g_aload_n hX dL_law_296 (rfl : 296 + 1 = 297) rfl ?_
        refine g_iload_n hX dL_law_297 (rfl : 297 + 1 = 298) rfl ?_
        refine g_iconst hX dL_law_298 (rfl : 298 + 1 = 299) ?_
        refine g_iadd hX dL_law_299 (rfl : 299 + 1 = 300) ?_
        refine g_sld hX hb dL_law_300 (rfl : 300 + 1 = 301) ?_
        refine g_aload_n hX dL_law_301 (rfl : 301 + 1 = 302) rfl ?_
        refine g_iload_n hX dL_law_302 (rfl : 302 + 1 = 303) rfl ?_
        refine g_iconst hX dL_law_303 (rfl : 303 + 1 = 304) ?_
        refine g_iadd hX dL_law_304 (rfl : 304 + 1 = 305) ?_
        refine g_sld hX hb dL_law_305 (rfl : 305 + 1 = 306) ?_
        refine ci_LJ hX (kX3_change _ _ _ (q) _ _ _) mw_L_28 (by decide) rfl rfl (Nat.le_of_ble_eq_true rfl) dL_law_306 (rfl : 306 + 3 = 309) (fun r119 Y118 => ?_)
        refine g_aload_n hX dL_law_309 (rfl : 309 + 1 = 310) rfl ?_
        refine g_aload_n hX dL_law_310 (rfl : 310 + 1 = 311) rfl ?_
        refine g_iload_n hX dL_law_311 (rfl : 311 + 1 = 312) rfl ?_
        refine g_iconst hX dL_law_312 (rfl : 312 + 1 = 313) ?_
        refine g_iadd hX dL_law_313 (rfl : 313 + 1 = 314) ?_
        refine g_sld hX hb dL_law_314 (rfl : 314 + 1 = 315) ?_
        refine g_aload_n hX dL_law_315 (rfl : 315 + 1 = 316) rfl ?_
        refine g_iload_n hX dL_law_316 (rfl : 316 + 1 = 317) rfl ?_
        refine g_iconst hX dL_law_317 (rfl : 317 + 1 = 318) ?_
        refine g_iadd hX dL_law_318 (rfl : 318 + 1 = 319) ?_
        refine g_sld hX hb dL_law_319 (rfl : 319 + 1 = 320) ?_
        refine ci_LM hX (kX4_change _ _ _ (qm) _ _ _) mw_L_31 (by decide) rfl rfl (Nat.le_of_ble_eq_true rfl) dL_law_320 (rfl : 320 + 3 = 323) (fun r121 Y120 => ?_)
        refine g_icmp_eq (tgt := 907) hX dL_law_323 (by decide) (rfl : 323 + 3 = 326) ?_ ?_
        · exact wL_law_907 hX hb hend hk_18 v3 Y120
        · exact g_none
      refine g_ite (fun c122 => ?_) (fun c122 => ?_)
      · refine g_tab (tgt := 328) hX c122 dL_law_33 (by decide) (by decide) rfl (by decide) ?_
        refine g_aload_n hX dL_law_328 (rfl : 328 + 1 = 329) rfl ?_
        refine g_aload_n hX dL_law_329 (rfl : 329 + 1 = 330) rfl ?_
        refine g_iload_n hX dL_law_330 (rfl : 330 + 1 = 331) rfl ?_
        refine g_iconst hX dL_law_331 (rfl : 331 + 1 = 332) ?_
        refine g_iadd hX dL_law_332 (rfl : 332 + 1 = 333) ?_
        refine g_sld hX hb dL_law_333 (rfl : 333 + 1 = 334) ?_
        refine ci_LJ hX (kX3_cut _ _ _ (q) _ _) mw_L_32 (by decide) rfl rfl (Nat.le_of_ble_eq_true rfl) dL_law_334 (rfl : 334 + 3 = 337) (fun r124 Y123 => ?_)
        refine g_aload_n hX dL_law_337 (rfl : 337 + 1 = 338) rfl ?_
        refine g_aload_n hX dL_law_338 (rfl : 338 + 1 = 339) rfl ?_
        refine g_iload_n hX dL_law_339 (rfl : 339 + 1 = 340) rfl ?_
        refine g_iconst hX dL_law_340 (rfl : 340 + 1 = 341) ?_
        refine g_iadd hX dL_law_341 (rfl : 341 + 1 = 342) ?_
        refine g_sld hX hb dL_law_342 (rfl : 342 + 1 = 343) ?_
        refine ci_LM hX (kX4_cut _ _ _ (qm) _ _) mw_L_36 (by decide) rfl rfl (Nat.le_of_ble_eq_true rfl) dL_law_343 (rfl : 343 + 3 = 346) (fun r126 Y125 => ?_)
        refine g_icmp_eq (tgt := 907) hX dL_law_346 (by decide) (rfl : 346 + 3 = 349) ?_ ?_
        · exact wL_law_907 hX hb hend hk_18 v3 Y125
        · exact g_none
      refine g_ite (fun c127 => ?_) (fun c127 => ?_)
      · refine g_tab (tgt := 351) hX c127 dL_law_33 (by decide) (by decide) rfl (by decide) ?_
        refine g_aload_n hX dL_law_351 (rfl : 351 + 1 = 352) rfl ?_
        refine g_aload_n hX dL_law_352 (rfl : 352 + 1 = 353) rfl ?_
        refine g_iload_n hX dL_law_353 (rfl : 353 + 1 = 354) rfl ?_
        refine g_iconst hX dL_law_354 (rfl : 354 + 1 = 355) ?_
        refine g_iadd hX dL_law_355 (rfl : 355 + 1 = 356) ?_
        refine g_sld hX hb dL_law_356 (rfl : 356 + 1 = 357) ?_
        refine ci_LJ hX (kX3_asked _ _ _ (q) _ _) mw_L_37 (by decide) rfl rfl (Nat.le_of_ble_eq_true rfl) dL_law_357 (rfl : 357 + 3 = 360) (fun r129 Y128 => ?_)
        refine g_aload_n hX dL_law_360 (rfl : 360 + 1 = 361) rfl ?_
        refine g_aload_n hX dL_law_361 (rfl : 361 + 1 = 362) rfl ?_
        refine g_iload_n hX dL_law_362 (rfl : 362 + 1 = 363) rfl ?_
        refine g_iconst hX dL_law_363 (rfl : 363 + 1 = 364) ?_
        refine g_iadd hX dL_law_364 (rfl : 364 + 1 = 365) ?_
        refine g_sld hX hb dL_law_365 (rfl : 365 + 1 = 366) ?_
        refine ci_LM hX (kX4_asked _ _ _ (qm) _ _) mw_L_40 (by decide) rfl rfl (Nat.le_of_ble_eq_true rfl) dL_law_366 (rfl : 366 + 3 = 369) (fun r131 Y130 => ?_)
        refine g_icmp_eq (tgt := 907) hX dL_law_369 (by decide) (rfl : 369 + 3 = 372) ?_ ?_
        · exact wL_law_907 hX hb hend hk_18 v3 Y130
        · exact g_none
      refine g_ite (fun c132 => ?_) (fun c132 => ?_)
      · refine g_tab (tgt := 374) hX c132 dL_law_33 (by decide) (by decide) rfl (by decide) ?_
        refine g_aload_n hX dL_law_374 (rfl : 374 + 1 = 375) rfl ?_
        refine g_aload_n hX dL_law_375 (rfl : 375 + 1 = 376) rfl ?_
        refine g_iload_n hX dL_law_376 (rfl : 376 + 1 = 377) rfl ?_
        refine g_iconst hX dL_law_377 (rfl : 377 + 1 = 378) ?_
        refine g_iadd hX dL_law_378 (rfl : 378 + 1 = 379) ?_
        refine g_sld hX hb dL_law_379 (rfl : 379 + 1 = 380) ?_
        refine ci_LJ hX (kX3_many _ _ _ (q) _ _) mw_L_41 (by decide) rfl rfl (Nat.le_of_ble_eq_true rfl) dL_law_380 (rfl : 380 + 3 = 383) (fun r134 Y133 => ?_)
        refine g_aload_n hX dL_law_383 (rfl : 383 + 1 = 384) rfl ?_
        refine g_aload_n hX dL_law_384 (rfl : 384 + 1 = 385) rfl ?_
        refine g_iload_n hX dL_law_385 (rfl : 385 + 1 = 386) rfl ?_
        refine g_iconst hX dL_law_386 (rfl : 386 + 1 = 387) ?_
        refine g_iadd hX dL_law_387 (rfl : 387 + 1 = 388) ?_
        refine g_sld hX hb dL_law_388 (rfl : 388 + 1 = 389) ?_
        refine ci_LM hX (kX4_many _ _ _ (qm) _ _) mw_L_44 (by decide) rfl rfl (Nat.le_of_ble_eq_true rfl) dL_law_389 (rfl : 389 + 3 = 392) (fun r136 Y135 => ?_)
        refine g_icmp_eq (tgt := 907) hX dL_law_392 (by decide) (rfl : 392 + 3 = 395) ?_ ?_
        · exact wL_law_907 hX hb hend hk_18 v3 Y135
        · exact g_none
      refine g_ite (fun c137 => ?_) (fun c137 => ?_)
      · refine g_tab (tgt := 397) hX c137 dL_law_33 (by decide) (by decide) rfl (by decide) ?_
        refine g_aload_n hX dL_law_397 (rfl : 397 + 1 = 398) rfl ?_
        refine g_aload_n hX dL_law_398 (rfl : 398 + 1 = 399) rfl ?_
        refine g_iload_n hX dL_law_399 (rfl : 399 + 1 = 400) rfl ?_
        refine g_iconst hX dL_law_400 (rfl : 400 + 1 = 401) ?_
        refine g_iadd hX dL_law_401 (rfl : 401 + 1 = 402) ?_
        refine g_sld hX hb dL_law_402 (rfl : 402 + 1 = 403) ?_
        refine g_aload_n hX dL_law_403 (rfl : 403 + 1 = 404) rfl ?_
        refine g_iload_n hX dL_law_404 (rfl : 404 + 1 = 405) rfl ?_
        refine g_iconst hX dL_law_405 (rfl : 405 + 1 = 406) ?_
        refine g_iadd hX dL_law_406 (rfl : 406 + 1 = 407) ?_
        refine g_sld hX hb dL_law_407 (rfl : 407 + 1 = 408) ?_
        refine ci_LJ hX (kX3_serve _ _ _ (q) _ _ _) mw_L_45 (by decide) rfl rfl (Nat.le_of_ble_eq_true rfl) dL_law_408 (rfl : 408 + 3 = 411) (fun r139 Y138 => ?_)
        refine g_aload_n hX dL_law_411 (rfl : 411 + 1 = 412) rfl ?_
        refine g_aload_n hX dL_law_412 (rfl : 412 + 1 = 413) rfl ?_
        refine g_iload_n hX dL_law_413 (rfl : 413 + 1 = 414) rfl ?_
        refine g_iconst hX dL_law_414 (rfl : 414 + 1 = 415) ?_
        refine g_iadd hX dL_law_415 (rfl : 415 + 1 = 416) ?_
        refine g_sld hX hb dL_law_416 (rfl : 416 + 1 = 417) ?_
        refine g_aload_n hX dL_law_417 (rfl : 417 + 1 = 418) rfl ?_
        refine g_iload_n hX dL_law_418 (rfl : 418 + 1 = 419) rfl ?_
        refine g_iconst hX dL_law_419 (rfl : 419 + 1 = 420) ?_
        refine g_iadd hX dL_law_420 (rfl : 420 + 1 = 421) ?_
        refine g_sld hX hb dL_law_421 (rfl : 421 + 1 = 422) ?_
        refine ci_LM hX (kX4_serve _ _ _ (qm) _ _ _) mw_L_48 (by decide) rfl rfl (Nat.le_of_ble_eq_true rfl) dL_law_422 (rfl : 422 + 3 = 425) (fun r141 Y140 => ?_)
        refine g_icmp_eq (tgt := 907) hX dL_law_425 (by decide) (rfl : 425 + 3 = 428) ?_ ?_
        · exact wL_law_907 hX hb hend hk_18 v3 Y140
        · exact g_none
      refine g_ite (fun c142 => ?_) (fun c142 => ?_)
      · refine g_tab (tgt := 430) hX c142 dL_law_33 (by decide) (by decide) rfl (by decide) ?_
        refine g_aload_n hX dL_law_430 (rfl : 430 + 1 = 431) rfl ?_
        refine ci_LJ hX (kX3_paid _ _ _ (q) _) mw_L_49 (by decide) rfl rfl (Nat.le_of_ble_eq_true rfl) dL_law_431 (rfl : 431 + 3 = 434) (fun r144 Y143 => ?_)
        refine g_aload_n hX dL_law_434 (rfl : 434 + 1 = 435) rfl ?_
        refine ci_LM hX (kX4_paid _ _ _ (qm) _) mw_L_53 (by decide) rfl rfl (Nat.le_of_ble_eq_true rfl) dL_law_435 (rfl : 435 + 3 = 438) (fun r146 Y145 => ?_)
        refine g_icmp_eq (tgt := 907) hX dL_law_438 (by decide) (rfl : 438 + 3 = 441) ?_ ?_
        · exact wL_law_907 hX hb hend hk_18 v3 Y145
        · exact g_none
      refine g_ite (fun c147 => ?_) (fun c147 => ?_)
      · refine g_tab (tgt := 443) hX c147 dL_law_33 (by decide) (by decide) rfl (by decide) ?_
        refine g_aload_n hX dL_law_443 (rfl : 443 + 1 = 444) rfl ?_
        refine g_aload_n hX dL_law_444 (rfl : 444 + 1 = 445) rfl ?_
        refine g_iload_n hX dL_law_445 (rfl : 445 + 1 = 446) rfl ?_
        refine g_iconst hX dL_law_446 (rfl : 446 + 1 = 447) ?_
        refine g_iadd hX dL_law_447 (rfl : 447 + 1 = 448) ?_
        refine g_sld hX hb dL_law_448 (rfl : 448 + 1 = 449) ?_
        refine ci_LJ hX (kX3_hit _ _ _ (q) _ _) mw_L_54 (by decide) rfl rfl (Nat.le_of_ble_eq_true rfl) dL_law_449 (rfl : 449 + 3 = 452) (fun r149 Y148 => ?_)
        refine g_aload_n hX dL_law_452 (rfl : 452 + 1 = 453) rfl ?_
        refine g_aload_n hX dL_law_453 (rfl : 453 + 1 = 454) rfl ?_
        refine g_iload_n hX dL_law_454 (rfl : 454 + 1 = 455) rfl ?_
        refine g_iconst hX dL_law_455 (rfl : 455 + 1 = 456) ?_
        refine g_iadd hX dL_law_456 (rfl : 456 + 1 = 457) ?_
        refine g_sld hX hb dL_law_457 (rfl : 457 + 1 = 458) ?_
        refine ci_LM hX (kX4_hit_ _ _ _ (qm) _ _) mw_L_57 (by decide) rfl rfl (Nat.le_of_ble_eq_true rfl) dL_law_458 (rfl : 458 + 3 = 461) (fun r151 Y150 => ?_)
        refine g_icmp_eq (tgt := 907) hX dL_law_461 (by decide) (rfl : 461 + 3 = 464) ?_ ?_
        · exact wL_law_907 hX hb hend hk_18 v3 Y150
        · exact g_none
      refine g_ite (fun c152 => ?_) (fun c152 => ?_)
      · refine g_tab (tgt := 466) hX c152 dL_law_33 (by decide) (by decide) rfl (by decide) ?_
        refine g_aload_n hX dL_law_466 (rfl : 466 + 1 = 467) rfl ?_
        refine g_aload_n hX dL_law_467 (rfl : 467 + 1 = 468) rfl ?_
        refine g_iload_n hX dL_law_468 (rfl : 468 + 1 = 469) rfl ?_
        refine g_iconst hX dL_law_469 (rfl : 469 + 1 = 470) ?_
        refine g_iadd hX dL_law_470 (rfl : 470 + 1 = 471) ?_
        refine g_sld hX hb dL_law_471 (rfl : 471 + 1 = 472) ?_
        refine ci_LJ hX (kX3_gone _ _ _ (q) _ _) mw_L_58 (by decide) rfl rfl (Nat.le_of_ble_eq_true rfl) dL_law_472 (rfl : 472 + 3 = 475) (fun r154 Y153 => ?_)
        refine g_aload_n hX dL_law_475 (rfl : 475 + 1 = 476) rfl ?_
        refine g_aload_n hX dL_law_476 (rfl : 476 + 1 = 477) rfl ?_
        refine g_iload_n hX dL_law_477 (rfl : 477 + 1 = 478) rfl ?_
        refine g_iconst hX dL_law_478 (rfl : 478 + 1 = 479) ?_
        refine g_iadd hX dL_law_479 (rfl : 479 + 1 = 480) ?_
        refine g_sld hX hb dL_law_480 (rfl : 480 + 1 = 481) ?_
        refine ci_LM hX (kX4_gone _ _ _ (qm) _ _) mw_L_61 (by decide) rfl rfl (Nat.le_of_ble_eq_true rfl) dL_law_481 (rfl : 481 + 3 = 484) (fun r156 Y155 => ?_)
        refine g_icmp_eq (tgt := 907) hX dL_law_484 (by decide) (rfl : 484 + 3 = 487) ?_ ?_
        · exact wL_law_907 hX hb hend hk_18 v3 Y155
        · exact g_none
      refine g_ite (fun c157 => ?_) (fun c157 => ?_)
      · refine g_tab (tgt := 489) hX c157 dL_law_33 (by decide) (by decide) rfl (by decide) ?_
        refine g_aload_n hX dL_law_489 (rfl : 489 + 1 = 490) rfl ?_
        refine g_aload_n hX dL_law_490 (rfl : 490 + 1 = 491) rfl ?_
        refine g_iload_n hX dL_law_491 (rfl : 491 + 1 = 492) rfl ?_
        refine g_iconst hX dL_law_492 (rfl : 492 + 1 = 493) ?_
        refine g_iadd hX dL_law_493 (rfl : 493 + 1 = 494) ?_
        refine g_sld hX hb dL_law_494 (rfl : 494 + 1 = 495) ?_
        refine g_aload_n hX dL_law_495 (rfl : 495 + 1 = 496) rfl ?_
        refine g_iload_n hX dL_law_496 (rfl : 496 + 1 = 497) rfl ?_
        refine g_iconst hX dL_law_497 (rfl : 497 + 1 = 498) ?_
        refine g_iadd hX dL_law_498 (rfl : 498 + 1 = 499) ?_
        refine g_sld hX hb dL_law_499 (rfl : 499 + 1 = 500) ?_
        refine g_aload_n hX dL_law_500 (rfl : 500 + 1 = 501) rfl ?_
        refine g_iload_n hX dL_law_501 (rfl : 501 + 1 = 502) rfl ?_
        refine g_iconst hX dL_law_502 (rfl : 502 + 1 = 503) ?_
        refine g_iadd hX dL_law_503 (rfl : 503 + 1 = 504) ?_
        refine g_sld hX hb dL_law_504 (rfl : 504 + 1 = 505) ?_
        refine ci_LJ hX (kX3_look _ _ _ (q) _ _ _ _) mw_L_62 (by decide) rfl rfl (Nat.le_of_ble_eq_true rfl) dL_law_505 (rfl : 505 + 3 = 508) (fun r159 Y158 => ?_)
        refine g_aload_n hX dL_law_508 (rfl : 508 + 1 = 509) rfl ?_
        refine g_aload_n hX dL_law_509 (rfl : 509 + 1 = 510) rfl ?_
        refine g_iload_n hX dL_law_510 (rfl : 510 + 1 = 511) rfl ?_
        refine g_iconst hX dL_law_511 (rfl : 511 + 1 = 512) ?_
        refine g_iadd hX dL_law_512 (rfl : 512 + 1 = 513) ?_
        refine g_sld hX hb dL_law_513 (rfl : 513 + 1 = 514) ?_
        refine g_aload_n hX dL_law_514 (rfl : 514 + 1 = 515) rfl ?_
        refine g_iload_n hX dL_law_515 (rfl : 515 + 1 = 516) rfl ?_
        refine g_iconst hX dL_law_516 (rfl : 516 + 1 = 517) ?_
        refine g_iadd hX dL_law_517 (rfl : 517 + 1 = 518) ?_
        refine g_sld hX hb dL_law_518 (rfl : 518 + 1 = 519) ?_
        refine g_aload_n hX dL_law_519 (rfl : 519 + 1 = 520) rfl ?_
        refine g_iload_n hX dL_law_520 (rfl : 520 + 1 = 521) rfl ?_
        refine g_iconst hX dL_law_521 (rfl : 521 + 1 = 522) ?_
        refine g_iadd hX dL_law_522 (rfl : 522 + 1 = 523) ?_
        refine g_sld hX hb dL_law_523 (rfl : 523 + 1 = 524) ?_
        refine ci_LM hX (kX4_look _ _ _ (qm) _ _ _ _) mw_L_65 (by decide) rfl rfl (Nat.le_of_ble_eq_true rfl) dL_law_524 (rfl : 524 + 3 = 527) (fun r161 Y160 => ?_)
        refine g_icmp_eq (tgt := 907) hX dL_law_527 (by decide) (rfl : 527 + 3 = 530) ?_ ?_
        · exact wL_law_907 hX hb hend hk_18 v3 Y160
        · exact g_none
      refine g_ite (fun c162 => ?_) (fun c162 => ?_)
      · refine g_tab (tgt := 532) hX c162 dL_law_33 (by decide) (by decide) rfl (by decide) ?_
        refine g_aload_n hX dL_law_532 (rfl : 532 + 1 = 533) rfl ?_
        refine g_aload_n hX dL_law_533 (rfl : 533 + 1 = 534) rfl ?_
        refine g_iload_n hX dL_law_534 (rfl : 534 + 1 = 535) rfl ?_
        refine g_iconst hX dL_law_535 (rfl : 535 + 1 = 536) ?_
        refine g_iadd hX dL_law_536 (rfl : 536 + 1 = 537) ?_
        refine g_sld hX hb dL_law_537 (rfl : 537 + 1 = 538) ?_
        refine g_aload_n hX dL_law_538 (rfl : 538 + 1 = 539) rfl ?_
        refine g_iload_n hX dL_law_539 (rfl : 539 + 1 = 540) rfl ?_
        refine g_iconst hX dL_law_540 (rfl : 540 + 1 = 541) ?_
        refine g_iadd hX dL_law_541 (rfl : 541 + 1 = 542) ?_
        refine g_sld hX hb dL_law_542 (rfl : 542 + 1 = 543) ?_
        refine ci_LJ hX (kX3_level _ _ _ (q) _ _ _) mw_L_66 (by decide) rfl rfl (Nat.le_of_ble_eq_true rfl) dL_law_543 (rfl : 543 + 3 = 546) (fun r164 Y163 => ?_)
        refine g_aload_n hX dL_law_546 (rfl : 546 + 1 = 547) rfl ?_
        refine g_aload_n hX dL_law_547 (rfl : 547 + 1 = 548) rfl ?_
        refine g_iload_n hX dL_law_548 (rfl : 548 + 1 = 549) rfl ?_
        refine g_iconst hX dL_law_549 (rfl : 549 + 1 = 550) ?_
        refine g_iadd hX dL_law_550 (rfl : 550 + 1 = 551) ?_
        refine g_sld hX hb dL_law_551 (rfl : 551 + 1 = 552) ?_
        refine g_aload_n hX dL_law_552 (rfl : 552 + 1 = 553) rfl ?_
        refine g_iload_n hX dL_law_553 (rfl : 553 + 1 = 554) rfl ?_
        refine g_iconst hX dL_law_554 (rfl : 554 + 1 = 555) ?_
        refine g_iadd hX dL_law_555 (rfl : 555 + 1 = 556) ?_
        refine g_sld hX hb dL_law_556 (rfl : 556 + 1 = 557) ?_
        refine ci_LM hX (kX4_level _ _ _ (qm) _ _ _) mw_L_69 (by decide) rfl rfl (Nat.le_of_ble_eq_true rfl) dL_law_557 (rfl : 557 + 3 = 560) (fun r166 Y165 => ?_)
        refine g_icmp_eq (tgt := 907) hX dL_law_560 (by decide) (rfl : 560 + 3 = 563) ?_ ?_
        · exact wL_law_907 hX hb hend hk_18 v3 Y165
        · exact g_none
      refine g_ite (fun c167 => ?_) (fun c167 => ?_)
      · refine g_tab (tgt := 565) hX c167 dL_law_33 (by decide) (by decide) rfl (by decide) ?_
        refine g_aload_n hX dL_law_565 (rfl : 565 + 1 = 566) rfl ?_
        refine g_aload_n hX dL_law_566 (rfl : 566 + 1 = 567) rfl ?_
        refine g_iload_n hX dL_law_567 (rfl : 567 + 1 = 568) rfl ?_
        refine g_iconst hX dL_law_568 (rfl : 568 + 1 = 569) ?_
        refine g_iadd hX dL_law_569 (rfl : 569 + 1 = 570) ?_
        refine g_sld hX hb dL_law_570 (rfl : 570 + 1 = 571) ?_
        refine ci_LJ hX (kX3_fewest _ _ _ (q) _ _) mw_L_70 (by decide) rfl rfl (Nat.le_of_ble_eq_true rfl) dL_law_571 (rfl : 571 + 3 = 574) (fun r169 Y168 => ?_)
        refine g_aload_n hX dL_law_574 (rfl : 574 + 1 = 575) rfl ?_
        refine g_aload_n hX dL_law_575 (rfl : 575 + 1 = 576) rfl ?_
        refine g_iload_n hX dL_law_576 (rfl : 576 + 1 = 577) rfl ?_
        refine g_iconst hX dL_law_577 (rfl : 577 + 1 = 578) ?_
        refine g_iadd hX dL_law_578 (rfl : 578 + 1 = 579) ?_
        refine g_sld hX hb dL_law_579 (rfl : 579 + 1 = 580) ?_
        refine ci_LM hX (kX4_fewest _ _ _ (qm) _ _) mw_L_73 (by decide) rfl rfl (Nat.le_of_ble_eq_true rfl) dL_law_580 (rfl : 580 + 3 = 583) (fun r171 Y170 => ?_)
        refine g_icmp_eq (tgt := 907) hX dL_law_583 (by decide) (rfl : 583 + 3 = 586) ?_ ?_
        · exact wL_law_907 hX hb hend hk_18 v3 Y170
        · exact g_none
      refine g_ite (fun c172 => ?_) (fun c172 => ?_)
      · refine g_tab (tgt := 588) hX c172 dL_law_33 (by decide) (by decide) rfl (by decide) ?_
        refine g_aload_n hX dL_law_588 (rfl : 588 + 1 = 589) rfl ?_
        refine ci_LJ hX (kX3_share _ _ _ (q) _) mw_L_74 (by decide) rfl rfl (Nat.le_of_ble_eq_true rfl) dL_law_589 (rfl : 589 + 3 = 592) (fun r174 Y173 => ?_)
        refine g_aload_n hX dL_law_592 (rfl : 592 + 1 = 593) rfl ?_
        refine ci_LM hX (kX4_share _ _ _ (qm) _) mw_L_77 (by decide) rfl rfl (Nat.le_of_ble_eq_true rfl) dL_law_593 (rfl : 593 + 3 = 596) (fun r176 Y175 => ?_)
        refine g_icmp_eq (tgt := 907) hX dL_law_596 (by decide) (rfl : 596 + 3 = 599) ?_ ?_
        · exact wL_law_907 hX hb hend hk_18 v3 Y175
        · exact g_none
      refine g_ite (fun c177 => ?_) (fun c177 => ?_)
      · refine g_tab (tgt := 601) hX c177 dL_law_33 (by decide) (by decide) rfl (by decide) ?_
        refine g_aload_n hX dL_law_601 (rfl : 601 + 1 = 602) rfl ?_
        refine g_aload_n hX dL_law_602 (rfl : 602 + 1 = 603) rfl ?_
        refine g_iload_n hX dL_law_603 (rfl : 603 + 1 = 604) rfl ?_
        refine g_iconst hX dL_law_604 (rfl : 604 + 1 = 605) ?_
        refine g_iadd hX dL_law_605 (rfl : 605 + 1 = 606) ?_
        refine g_sld hX hb dL_law_606 (rfl : 606 + 1 = 607) ?_
        refine ci_LJ hX (kX3_least _ _ _ (q) _ _) mw_L_78 (by decide) rfl rfl (Nat.le_of_ble_eq_true rfl) dL_law_607 (rfl : 607 + 3 = 610) (fun r179 Y178 => ?_)
        refine g_aload_n hX dL_law_610 (rfl : 610 + 1 = 611) rfl ?_
        refine g_aload_n hX dL_law_611 (rfl : 611 + 1 = 612) rfl ?_
        refine g_iload_n hX dL_law_612 (rfl : 612 + 1 = 613) rfl ?_
        refine g_iconst hX dL_law_613 (rfl : 613 + 1 = 614) ?_
        refine g_iadd hX dL_law_614 (rfl : 614 + 1 = 615) ?_
        refine g_sld hX hb dL_law_615 (rfl : 615 + 1 = 616) ?_
        refine ci_LM hX (kX4_least_ _ _ _ (qm) _ _) mw_L_81 (by decide) rfl rfl (Nat.le_of_ble_eq_true rfl) dL_law_616 (rfl : 616 + 3 = 619) (fun r181 Y180 => ?_)
        refine g_icmp_eq (tgt := 907) hX dL_law_619 (by decide) (rfl : 619 + 3 = 622) ?_ ?_
        · exact wL_law_907 hX hb hend hk_18 v3 Y180
        · exact g_none
      refine g_ite (fun c182 => ?_) (fun c182 => ?_)
      · refine g_tab (tgt := 624) hX c182 dL_law_33 (by decide) (by decide) rfl (by decide) ?_
        refine g_aload_n hX dL_law_624 (rfl : 624 + 1 = 625) rfl ?_
        refine g_aload_n hX dL_law_625 (rfl : 625 + 1 = 626) rfl ?_
        refine g_iload_n hX dL_law_626 (rfl : 626 + 1 = 627) rfl ?_
        refine g_iconst hX dL_law_627 (rfl : 627 + 1 = 628) ?_
        refine g_iadd hX dL_law_628 (rfl : 628 + 1 = 629) ?_
        refine g_sld hX hb dL_law_629 (rfl : 629 + 1 = 630) ?_
        refine g_aload_n hX dL_law_630 (rfl : 630 + 1 = 631) rfl ?_
        refine g_iload_n hX dL_law_631 (rfl : 631 + 1 = 632) rfl ?_
        refine g_iconst hX dL_law_632 (rfl : 632 + 1 = 633) ?_
        refine g_iadd hX dL_law_633 (rfl : 633 + 1 = 634) ?_
        refine g_sld hX hb dL_law_634 (rfl : 634 + 1 = 635) ?_
        refine ci_LJ hX (kX3_goes _ _ _ (q) _ _ _) mw_L_82 (by decide) rfl rfl (Nat.le_of_ble_eq_true rfl) dL_law_635 (rfl : 635 + 3 = 638) (fun r184 Y183 => ?_)
        refine g_aload_n hX dL_law_638 (rfl : 638 + 1 = 639) rfl ?_
        refine g_aload_n hX dL_law_639 (rfl : 639 + 1 = 640) rfl ?_
        refine g_iload_n hX dL_law_640 (rfl : 640 + 1 = 641) rfl ?_
        refine g_iconst hX dL_law_641 (rfl : 641 + 1 = 642) ?_
        refine g_iadd hX dL_law_642 (rfl : 642 + 1 = 643) ?_
        refine g_sld hX hb dL_law_643 (rfl : 643 + 1 = 644) ?_
        refine g_aload_n hX dL_law_644 (rfl : 644 + 1 = 645) rfl ?_
        refine g_iload_n hX dL_law_645 (rfl : 645 + 1 = 646) rfl ?_
        refine g_iconst hX dL_law_646 (rfl : 646 + 1 = 647) ?_
        refine g_iadd hX dL_law_647 (rfl : 647 + 1 = 648) ?_
        refine g_sld hX hb dL_law_648 (rfl : 648 + 1 = 649) ?_
        refine ci_LM hX (kX4_goes _ _ _ (qm) _ _ _) mw_L_85 (by decide) rfl rfl (Nat.le_of_ble_eq_true rfl) dL_law_649 (rfl : 649 + 3 = 652) (fun r186 Y185 => ?_)
        refine g_icmp_eq (tgt := 907) hX dL_law_652 (by decide) (rfl : 652 + 3 = 655) ?_ ?_
        · exact wL_law_907 hX hb hend hk_18 v3 Y185
        · exact g_none
      refine g_ite (fun c187 => ?_) (fun c187 => ?_)
      · refine g_tab (tgt := 657) hX c187 dL_law_33 (by decide) (by decide) rfl (by decide) ?_
        refine g_aload_n hX dL_law_657 (rfl : 657 + 1 = 658) rfl ?_
        refine g_aload_n hX dL_law_658 (rfl : 658 + 1 = 659) rfl ?_
        refine g_iload_n hX dL_law_659 (rfl : 659 + 1 = 660) rfl ?_
        refine g_iconst hX dL_law_660 (rfl : 660 + 1 = 661) ?_
        refine g_iadd hX dL_law_661 (rfl : 661 + 1 = 662) ?_
        refine g_sld hX hb dL_law_662 (rfl : 662 + 1 = 663) ?_
        refine ci_LJ hX (kX3_phases _ _ _ (q) _ _) mw_L_86 (by decide) rfl rfl (Nat.le_of_ble_eq_true rfl) dL_law_663 (rfl : 663 + 3 = 666) (fun r189 Y188 => ?_)
        refine g_aload_n hX dL_law_666 (rfl : 666 + 1 = 667) rfl ?_
        refine g_aload_n hX dL_law_667 (rfl : 667 + 1 = 668) rfl ?_
        refine g_iload_n hX dL_law_668 (rfl : 668 + 1 = 669) rfl ?_
        refine g_iconst hX dL_law_669 (rfl : 669 + 1 = 670) ?_
        refine g_iadd hX dL_law_670 (rfl : 670 + 1 = 671) ?_
        refine g_sld hX hb dL_law_671 (rfl : 671 + 1 = 672) ?_
        refine ci_LM hX (kX4_phases _ _ _ (qm) _ _) mw_L_89 (by decide) rfl rfl (Nat.le_of_ble_eq_true rfl) dL_law_672 (rfl : 672 + 3 = 675) (fun r191 Y190 => ?_)
        refine g_icmp_eq (tgt := 907) hX dL_law_675 (by decide) (rfl : 675 + 3 = 678) ?_ ?_
        · exact wL_law_907 hX hb hend hk_18 v3 Y190
        · exact g_none
      refine g_ite (fun c192 => ?_) (fun c192 => ?_)
      · refine g_tab (tgt := 680) hX c192 dL_law_33 (by decide) (by decide) rfl (by decide) ?_
        refine g_aload_n hX dL_law_680 (rfl : 680 + 1 = 681) rfl ?_
        refine g_aload_n hX dL_law_681 (rfl : 681 + 1 = 682) rfl ?_
        refine g_iload_n hX dL_law_682 (rfl : 682 + 1 = 683) rfl ?_
        refine g_iconst hX dL_law_683 (rfl : 683 + 1 = 684) ?_
        refine g_iadd hX dL_law_684 (rfl : 684 + 1 = 685) ?_
        refine g_sld hX hb dL_law_685 (rfl : 685 + 1 = 686) ?_
        refine g_aload_n hX dL_law_686 (rfl : 686 + 1 = 687) rfl ?_
        refine g_iload_n hX dL_law_687 (rfl : 687 + 1 = 688) rfl ?_
        refine g_iconst hX dL_law_688 (rfl : 688 + 1 = 689) ?_
        refine g_iadd hX dL_law_689 (rfl : 689 + 1 = 690) ?_
        refine g_sld hX hb dL_law_690 (rfl : 690 + 1 = 691) ?_
        refine ci_LJ hX (kX3_phase _ _ _ (q) _ _ _) mw_L_90 (by decide) rfl rfl (Nat.le_of_ble_eq_true rfl) dL_law_691 (rfl : 691 + 3 = 694) (fun r194 Y193 => ?_)
        refine g_aload_n hX dL_law_694 (rfl : 694 + 1 = 695) rfl ?_
        refine g_aload_n hX dL_law_695 (rfl : 695 + 1 = 696) rfl ?_
        refine g_iload_n hX dL_law_696 (rfl : 696 + 1 = 697) rfl ?_
        refine g_iconst hX dL_law_697 (rfl : 697 + 1 = 698) ?_
        refine g_iadd hX dL_law_698 (rfl : 698 + 1 = 699) ?_
        refine g_sld hX hb dL_law_699 (rfl : 699 + 1 = 700) ?_
        refine g_aload_n hX dL_law_700 (rfl : 700 + 1 = 701) rfl ?_
        refine g_iload_n hX dL_law_701 (rfl : 701 + 1 = 702) rfl ?_
        refine g_iconst hX dL_law_702 (rfl : 702 + 1 = 703) ?_
        refine g_iadd hX dL_law_703 (rfl : 703 + 1 = 704) ?_
        refine g_sld hX hb dL_law_704 (rfl : 704 + 1 = 705) ?_
        refine ci_LM hX (kX4_phase _ _ _ (qm) _ _ _) mw_L_93 (by decide) rfl rfl (Nat.le_of_ble_eq_true rfl) dL_law_705 (rfl : 705 + 3 = 708) (fun r196 Y195 => ?_)
        refine g_icmp_eq (tgt := 907) hX dL_law_708 (by decide) (rfl : 708 + 3 = 711) ?_ ?_
        · exact wL_law_907 hX hb hend hk_18 v3 Y195
        · exact g_none
      refine g_ite (fun c197 => ?_) (fun c197 => ?_)
      · refine g_tab (tgt := 713) hX c197 dL_law_33 (by decide) (by decide) rfl (by decide) ?_
        refine g_aload_n hX dL_law_713 (rfl : 713 + 1 = 714) rfl ?_
        refine g_aload_n hX dL_law_714 (rfl : 714 + 1 = 715) rfl ?_
        refine g_iload_n hX dL_law_715 (rfl : 715 + 1 = 716) rfl ?_
        refine g_iconst hX dL_law_716 (rfl : 716 + 1 = 717) ?_
        refine g_iadd hX dL_law_717 (rfl : 717 + 1 = 718) ?_
        refine g_sld hX hb dL_law_718 (rfl : 718 + 1 = 719) ?_
        refine ci_LJ hX (kX3_distance _ _ _ (q) _ _) mw_L_94 (by decide) rfl rfl (Nat.le_of_ble_eq_true rfl) dL_law_719 (rfl : 719 + 3 = 722) (fun r199 Y198 => ?_)
        refine g_aload_n hX dL_law_722 (rfl : 722 + 1 = 723) rfl ?_
        refine g_aload_n hX dL_law_723 (rfl : 723 + 1 = 724) rfl ?_
        refine g_iload_n hX dL_law_724 (rfl : 724 + 1 = 725) rfl ?_
        refine g_iconst hX dL_law_725 (rfl : 725 + 1 = 726) ?_
        refine g_iadd hX dL_law_726 (rfl : 726 + 1 = 727) ?_
        refine g_sld hX hb dL_law_727 (rfl : 727 + 1 = 728) ?_
        refine ci_LM hX (kX4_distance _ _ _ (qm) _ _) mw_L_97 (by decide) rfl rfl (Nat.le_of_ble_eq_true rfl) dL_law_728 (rfl : 728 + 3 = 731) (fun r201 Y200 => ?_)
        refine g_icmp_eq (tgt := 907) hX dL_law_731 (by decide) (rfl : 731 + 3 = 734) ?_ ?_
        · exact wL_law_907 hX hb hend hk_18 v3 Y200
        · exact g_none
      refine g_ite (fun c202 => ?_) (fun c202 => ?_)
      · refine g_tab (tgt := 736) hX c202 dL_law_33 (by decide) (by decide) rfl (by decide) ?_
        refine g_aload_n hX dL_law_736 (rfl : 736 + 1 = 737) rfl ?_
        refine g_aload_n hX dL_law_737 (rfl : 737 + 1 = 738) rfl ?_
        refine g_iload_n hX dL_law_738 (rfl : 738 + 1 = 739) rfl ?_
        refine g_iconst hX dL_law_739 (rfl : 739 + 1 = 740) ?_
        refine g_iadd hX dL_law_740 (rfl : 740 + 1 = 741) ?_
        refine g_sld hX hb dL_law_741 (rfl : 741 + 1 = 742) ?_
        refine ci_LJ hX (kX3_curve _ _ _ (q) _ _) mw_L_98 (by decide) rfl rfl (Nat.le_of_ble_eq_true rfl) dL_law_742 (rfl : 742 + 3 = 745) (fun r204 Y203 => ?_)
        refine g_aload_n hX dL_law_745 (rfl : 745 + 1 = 746) rfl ?_
        refine g_aload_n hX dL_law_746 (rfl : 746 + 1 = 747) rfl ?_
        refine g_iload_n hX dL_law_747 (rfl : 747 + 1 = 748) rfl ?_
        refine g_iconst hX dL_law_748 (rfl : 748 + 1 = 749) ?_
        refine g_iadd hX dL_law_749 (rfl : 749 + 1 = 750) ?_
        refine g_sld hX hb dL_law_750 (rfl : 750 + 1 = 751) ?_
        refine ci_LM hX (kX4_curve _ _ _ (qm) _ _) mw_L_101 (by decide) rfl rfl (Nat.le_of_ble_eq_true rfl) dL_law_751 (rfl : 751 + 3 = 754) (fun r206 Y205 => ?_)
        refine g_icmp_eq (tgt := 907) hX dL_law_754 (by decide) (rfl : 754 + 3 = 757) ?_ ?_
        · exact wL_law_907 hX hb hend hk_18 v3 Y205
        · exact g_none
      refine g_ite (fun c207 => ?_) (fun c207 => ?_)
      · refine g_tab (tgt := 759) hX c207 dL_law_33 (by decide) (by decide) rfl (by decide) ?_
        refine g_aload_n hX dL_law_759 (rfl : 759 + 1 = 760) rfl ?_
        refine g_aload_n hX dL_law_760 (rfl : 760 + 1 = 761) rfl ?_
        refine g_iload_n hX dL_law_761 (rfl : 761 + 1 = 762) rfl ?_
        refine g_iconst hX dL_law_762 (rfl : 762 + 1 = 763) ?_
        refine g_iadd hX dL_law_763 (rfl : 763 + 1 = 764) ?_
        refine g_sld hX hb dL_law_764 (rfl : 764 + 1 = 765) ?_
        refine g_aload_n hX dL_law_765 (rfl : 765 + 1 = 766) rfl ?_
        refine g_iload_n hX dL_law_766 (rfl : 766 + 1 = 767) rfl ?_
        refine g_iconst hX dL_law_767 (rfl : 767 + 1 = 768) ?_
        refine g_iadd hX dL_law_768 (rfl : 768 + 1 = 769) ?_
        refine g_sld hX hb dL_law_769 (rfl : 769 + 1 = 770) ?_
        refine g_aload_n hX dL_law_770 (rfl : 770 + 1 = 771) rfl ?_
        refine g_iload_n hX dL_law_771 (rfl : 771 + 1 = 772) rfl ?_
        refine g_iconst hX dL_law_772 (rfl : 772 + 1 = 773) ?_
        refine g_iadd hX dL_law_773 (rfl : 773 + 1 = 774) ?_
        refine g_sld hX hb dL_law_774 (rfl : 774 + 1 = 775) ?_
        refine ci_LJ hX (kX3_hard _ _ _ (q) _ _ _ _) mw_L_102 (by decide) rfl rfl (Nat.le_of_ble_eq_true rfl) dL_law_775 (rfl : 775 + 3 = 778) (fun r209 Y208 => ?_)
        refine g_aload_n hX dL_law_778 (rfl : 778 + 1 = 779) rfl ?_
        refine g_aload_n hX dL_law_779 (rfl : 779 + 1 = 780) rfl ?_
        refine g_iload_n hX dL_law_780 (rfl : 780 + 1 = 781) rfl ?_
        refine g_iconst hX dL_law_781 (rfl : 781 + 1 = 782) ?_
        refine g_iadd hX dL_law_782 (rfl : 782 + 1 = 783) ?_
        refine g_sld hX hb dL_law_783 (rfl : 783 + 1 = 784) ?_
        refine g_aload_n hX dL_law_784 (rfl : 784 + 1 = 785) rfl ?_
        refine g_iload_n hX dL_law_785 (rfl : 785 + 1 = 786) rfl ?_
        refine g_iconst hX dL_law_786 (rfl : 786 + 1 = 787) ?_
        refine g_iadd hX dL_law_787 (rfl : 787 + 1 = 788) ?_
        refine g_sld hX hb dL_law_788 (rfl : 788 + 1 = 789) ?_
        refine g_aload_n hX dL_law_789 (rfl : 789 + 1 = 790) rfl ?_
        refine g_iload_n hX dL_law_790 (rfl : 790 + 1 = 791) rfl ?_
        refine g_iconst hX dL_law_791 (rfl : 791 + 1 = 792) ?_
        refine g_iadd hX dL_law_792 (rfl : 792 + 1 = 793) ?_
        refine g_sld hX hb dL_law_793 (rfl : 793 + 1 = 794) ?_
        refine ci_LM hX (kX4_hard _ _ _ (qm) _ _ _ _) mw_L_105 (by decide) rfl rfl (Nat.le_of_ble_eq_true rfl) dL_law_794 (rfl : 794 + 3 = 797) (fun r211 Y210 => ?_)
        refine g_icmp_eq (tgt := 907) hX dL_law_797 (by decide) (rfl : 797 + 3 = 800) ?_ ?_
        · exact wL_law_907 hX hb hend hk_18 v3 Y210
        · exact g_none
      refine g_ite (fun c212 => ?_) (fun c212 => ?_)
      · refine g_tab (tgt := 802) hX c212 dL_law_33 (by decide) (by decide) rfl (by decide) ?_
        refine g_aload_n hX dL_law_802 (rfl : 802 + 1 = 803) rfl ?_
        refine g_aload_n hX dL_law_803 (rfl : 803 + 1 = 804) rfl ?_
        refine g_iload_n hX dL_law_804 (rfl : 804 + 1 = 805) rfl ?_
        refine g_iconst hX dL_law_805 (rfl : 805 + 1 = 806) ?_
        refine g_iadd hX dL_law_806 (rfl : 806 + 1 = 807) ?_
        refine g_sld hX hb dL_law_807 (rfl : 807 + 1 = 808) ?_
        refine ci_LJ hX (kX3_claim _ _ _ (q) _ _) mw_L_106 (by decide) rfl rfl (Nat.le_of_ble_eq_true rfl) dL_law_808 (rfl : 808 + 3 = 811) (fun r214 Y213 => ?_)
        refine g_aload_n hX dL_law_811 (rfl : 811 + 1 = 812) rfl ?_
        refine g_aload_n hX dL_law_812 (rfl : 812 + 1 = 813) rfl ?_
        refine g_iload_n hX dL_law_813 (rfl : 813 + 1 = 814) rfl ?_
        refine g_iconst hX dL_law_814 (rfl : 814 + 1 = 815) ?_
        refine g_iadd hX dL_law_815 (rfl : 815 + 1 = 816) ?_
        refine g_sld hX hb dL_law_816 (rfl : 816 + 1 = 817) ?_
        refine ci_LM hX (kX4_claim _ _ _ (qm) _ _) mw_L_109 (by decide) rfl rfl (Nat.le_of_ble_eq_true rfl) dL_law_817 (rfl : 817 + 3 = 820) (fun r216 Y215 => ?_)
        refine g_icmp_eq (tgt := 907) hX dL_law_820 (by decide) (rfl : 820 + 3 = 823) ?_ ?_
        · exact wL_law_907 hX hb hend hk_18 v3 Y215
        · exact g_none
      refine g_ite (fun c217 => ?_) (fun c217 => ?_)
      · refine g_tab (tgt := 825) hX c217 dL_law_33 (by decide) (by decide) rfl (by decide) ?_
        refine g_aload_n hX dL_law_825 (rfl : 825 + 1 = 826) rfl ?_
        refine ci_LJ hX (kX3_copy _ _ _ (q) _) mw_L_110 (by decide) rfl rfl (Nat.le_of_ble_eq_true rfl) dL_law_826 (rfl : 826 + 3 = 829) (fun r219 Y218 => ?_)
        refine g_aload_n hX dL_law_829 (rfl : 829 + 1 = 830) rfl ?_
        refine ci_LM hX (kX4_copy _ _ _ (qm) _) mw_L_113 (by decide) rfl rfl (Nat.le_of_ble_eq_true rfl) dL_law_830 (rfl : 830 + 3 = 833) (fun r221 Y220 => ?_)
        refine g_icmp_eq (tgt := 907) hX dL_law_833 (by decide) (rfl : 833 + 3 = 836) ?_ ?_
        · exact wL_law_907 hX hb hend hk_18 v3 Y220
        · exact g_none
      refine g_ite (fun c222 => ?_) (fun c222 => ?_)
      · refine g_tab (tgt := 838) hX c222 dL_law_33 (by decide) (by decide) rfl (by decide) ?_
        refine g_aload_n hX dL_law_838 (rfl : 838 + 1 = 839) rfl ?_
        refine ci_LJ hX (kX3_unclaim _ _ _ (q) _) mw_L_114 (by decide) rfl rfl (Nat.le_of_ble_eq_true rfl) dL_law_839 (rfl : 839 + 3 = 842) (fun r224 Y223 => ?_)
        refine g_aload_n hX dL_law_842 (rfl : 842 + 1 = 843) rfl ?_
        refine ci_LM hX (kX4_unclaim _ _ _ (qm) _) mw_L_117 (by decide) rfl rfl (Nat.le_of_ble_eq_true rfl) dL_law_843 (rfl : 843 + 3 = 846) (fun r226 Y225 => ?_)
        refine g_icmp_eq (tgt := 907) hX dL_law_846 (by decide) (rfl : 846 + 3 = 849) ?_ ?_
        · exact wL_law_907 hX hb hend hk_18 v3 Y225
        · exact g_none
      refine g_ite (fun c227 => ?_) (fun c227 => ?_)
      · refine g_tab (tgt := 851) hX c227 dL_law_33 (by decide) (by decide) rfl (by decide) ?_
        refine g_aload_n hX dL_law_851 (rfl : 851 + 1 = 852) rfl ?_
        refine g_aload_n hX dL_law_852 (rfl : 852 + 1 = 853) rfl ?_
        refine g_iload_n hX dL_law_853 (rfl : 853 + 1 = 854) rfl ?_
        refine g_iconst hX dL_law_854 (rfl : 854 + 1 = 855) ?_
        refine g_iadd hX dL_law_855 (rfl : 855 + 1 = 856) ?_
        refine g_sld hX hb dL_law_856 (rfl : 856 + 1 = 857) ?_
        refine ci_LJ hX (kX3_cost _ _ _ (q) _ _) mw_L_118 (by decide) rfl rfl (Nat.le_of_ble_eq_true rfl) dL_law_857 (rfl : 857 + 3 = 860) (fun r229 Y228 => ?_)
        refine g_aload_n hX dL_law_860 (rfl : 860 + 1 = 861) rfl ?_
        refine g_aload_n hX dL_law_861 (rfl : 861 + 1 = 862) rfl ?_
        refine g_iload_n hX dL_law_862 (rfl : 862 + 1 = 863) rfl ?_
        refine g_iconst hX dL_law_863 (rfl : 863 + 1 = 864) ?_
        refine g_iadd hX dL_law_864 (rfl : 864 + 1 = 865) ?_
        refine g_sld hX hb dL_law_865 (rfl : 865 + 1 = 866) ?_
        refine ci_LM hX (kX4_cost _ _ _ (qm) _ _) mw_L_121 (by decide) rfl rfl (Nat.le_of_ble_eq_true rfl) dL_law_866 (rfl : 866 + 3 = 869) (fun r231 Y230 => ?_)
        refine g_icmp_eq (tgt := 907) hX dL_law_869 (by decide) (rfl : 869 + 3 = 872) ?_ ?_
        · exact wL_law_907 hX hb hend hk_18 v3 Y230
        · exact g_none
      refine g_ite (fun c232 => ?_) (fun c232 => ?_)
      · refine g_tab (tgt := 874) hX c232 dL_law_33 (by decide) (by decide) rfl (by decide) ?_
        refine g_aload_n hX dL_law_874 (rfl : 874 + 1 = 875) rfl ?_
        refine g_aload_n hX dL_law_875 (rfl : 875 + 1 = 876) rfl ?_
        refine g_iload_n hX dL_law_876 (rfl : 876 + 1 = 877) rfl ?_
        refine g_iconst hX dL_law_877 (rfl : 877 + 1 = 878) ?_
        refine g_iadd hX dL_law_878 (rfl : 878 + 1 = 879) ?_
        refine g_sld hX hb dL_law_879 (rfl : 879 + 1 = 880) ?_
        refine g_aload_n hX dL_law_880 (rfl : 880 + 1 = 881) rfl ?_
        refine g_iload_n hX dL_law_881 (rfl : 881 + 1 = 882) rfl ?_
        refine g_iconst hX dL_law_882 (rfl : 882 + 1 = 883) ?_
        refine g_iadd hX dL_law_883 (rfl : 883 + 1 = 884) ?_
        refine g_sld hX hb dL_law_884 (rfl : 884 + 1 = 885) ?_
        refine ci_LJ hX (kX3_check _ _ _ (q) _ _ _) mw_L_122 (by decide) rfl rfl (Nat.le_of_ble_eq_true rfl) dL_law_885 (rfl : 885 + 3 = 888) (fun r234 Y233 => ?_)
        refine g_aload_n hX dL_law_888 (rfl : 888 + 1 = 889) rfl ?_
        refine g_aload_n hX dL_law_889 (rfl : 889 + 1 = 890) rfl ?_
        refine g_iload_n hX dL_law_890 (rfl : 890 + 1 = 891) rfl ?_
        refine g_iconst hX dL_law_891 (rfl : 891 + 1 = 892) ?_
        refine g_iadd hX dL_law_892 (rfl : 892 + 1 = 893) ?_
        refine g_sld hX hb dL_law_893 (rfl : 893 + 1 = 894) ?_
        refine g_aload_n hX dL_law_894 (rfl : 894 + 1 = 895) rfl ?_
        refine g_iload_n hX dL_law_895 (rfl : 895 + 1 = 896) rfl ?_
        refine g_iconst hX dL_law_896 (rfl : 896 + 1 = 897) ?_
        refine g_iadd hX dL_law_897 (rfl : 897 + 1 = 898) ?_
        refine g_sld hX hb dL_law_898 (rfl : 898 + 1 = 899) ?_
        refine ci_LM hX (kX4_check _ _ _ (qm) _ _ _) mw_L_125 (by decide) rfl rfl (Nat.le_of_ble_eq_true rfl) dL_law_899 (rfl : 899 + 3 = 902) (fun r236 Y235 => ?_)
        refine g_icmp_eq (tgt := 907) hX dL_law_902 (by decide) (rfl : 902 + 3 = 905) ?_ ?_
        · exact wL_law_907 hX hb hend hk_18 v3 Y235
        · exact g_none
      refine g_tabD (tgt := 907) hX dL_law_33 (by omega) (by decide) ?_
      exact wL_law_907 hX hb hend hk_18 v3 Y
