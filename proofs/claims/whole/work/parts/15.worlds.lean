def rmk (k : Nat) : Room := { frames := k, cells := 0, slots := 0, locals := 40 * k }
noncomputable def FU : Nat := Classical.choose (⟨100000, Nat.le_refl _⟩ : ∃ n : Nat, 100000 ≤ n)
theorem FU_le : 100000 ≤ FU := Classical.choose_spec (⟨100000, Nat.le_refl _⟩ : ∃ n : Nat, 100000 ≤ n)
theorem cat1 {vs : List Value} (h : vs.all (fun v => v.category == 1) = true) : ∀ v ∈ vs, v.category = 1 := fun v hv => by have := List.all_eq_true.mp h v hv; simpa using this
theorem in_X0 : ∀ w ∈ u_ws RX0 TX0 12, w ∈ lw_gd := by decide +kernel
theorem in_X1 : ∀ w ∈ u_ws RX1 TX1 5, w ∈ lw_gd := by decide +kernel
theorem in_X2 : ∀ w ∈ u_ws RX2 TX2 18, w ∈ lw_gd := by decide +kernel
theorem in_X3 : ∀ w ∈ u_ws RX3 TX3 12, w ∈ lw_gd := by decide +kernel
theorem in_X4 : ∀ w ∈ u_ws RX4 TX4 34, w ∈ lw_gd := by decide +kernel
def wR (y : ClassId × ClassId × ClassId) (q : Nat → Nat) (Y : St) : va_W := [((q 0), .inr (1, [.ref (q 1), .ref (q 2), .ref (q 3), .ref (q 4), .int (iz (Y.1 4))])), ((q 1), .inl (y.1, 300, .inl (fun j => iz (Y.2 0 j)))), ((q 2), .inl (y.1, 16, .inl (fun j => iz (Y.2 1 j)))), ((q 3), .inl (y.1, 300, .inl (fun j => iz (Y.2 2 j)))), ((q 4), .inl (y.1, 16, .inl (fun j => iz (Y.2 3 j))))]
def wS (y : ClassId × ClassId × ClassId) (q qr : Nat → Nat) (Y : St × St) : va_W := [((q 0), .inr (2, [.ref (qr 0), .ref (q 1), .ref (q 2), .ref (q 3), .ref (q 4), .ref (q 5), .ref (q 6), .ref (q 7), .ref (q 8), .int (iz (Y.1.1 9)), .int (iz (Y.1.1 10)), .int (iz (Y.1.1 11)), .int (iz (Y.1.1 12)), .int (iz (Y.1.1 13)), .int (iz (Y.1.1 14)), .int (iz (Y.1.1 15)), .int (iz (Y.1.1 16)), .int (iz (Y.1.1 17))])), ((q 1), .inl (y.1, 16, .inl (fun j => iz (Y.1.2 1 j)))), ((q 2), .inl (y.1, 5, .inl (fun j => iz (Y.1.2 2 j)))), ((q 3), .inl (y.1, 16, .inl (fun j => iz (Y.1.2 3 j)))), ((q 4), .inl (y.1, 16, .inl (fun j => iz (Y.1.2 4 j)))), ((q 5), .inl (y.1, 16, .inl (fun j => iz (Y.1.2 5 j)))), ((q 6), .inl (y.1, 16, .inl (fun j => iz (Y.1.2 6 j)))), ((q 7), .inl (y.1, 16, .inl (fun j => iz (Y.1.2 7 j)))), ((q 8), .inl (y.1, 8, .inl (fun j => iz (Y.1.2 8 j)))), ((qr 0), .inr (1, [.ref (qr 1), .ref (qr 2), .ref (qr 3), .ref (qr 4), .int (iz (Y.2.1 4))])), ((qr 1), .inl (y.1, 300, .inl (fun j => iz (Y.2.2 0 j)))), ((qr 2), .inl (y.1, 16, .inl (fun j => iz (Y.2.2 1 j)))), ((qr 3), .inl (y.1, 300, .inl (fun j => iz (Y.2.2 2 j)))), ((qr 4), .inl (y.1, 16, .inl (fun j => iz (Y.2.2 3 j))))]
def wT (y : ClassId × ClassId × ClassId) (q qr : Nat → Nat) (Y : St × St) : va_W := [((q 0), .inr (0, [.ref (qr 0), .ref (q 1), .ref (q 2), .ref (q 3), .ref (q 4), .ref (q 5), .ref (q 6), .ref (q 7), .int (iz (Y.1.1 8)), .int (iz (Y.1.1 9)), .int (iz (Y.1.1 10)), .int (iz (Y.1.1 11))])), ((q 1), .inl (y.1, 16, .inl (fun j => iz (Y.1.2 1 j)))), ((q 2), .inl (y.1, 16, .inl (fun j => iz (Y.1.2 2 j)))), ((q 3), .inl (y.1, 252, .inl (fun j => iz (Y.1.2 3 j)))), ((q 4), .inl (y.1, 1024, .inl (fun j => iz (Y.1.2 4 j)))), ((q 5), .inl (y.1, 1024, .inl (fun j => iz (Y.1.2 5 j)))), ((q 6), .inl (y.2.1, 4800, .inr (.inl (fun j => lz (Y.1.2 6 j))))), ((q 7), .inl (y.1, 300, .inl (fun j => iz (Y.1.2 7 j)))), ((qr 0), .inr (1, [.ref (qr 1), .ref (qr 2), .ref (qr 3), .ref (qr 4), .int (iz (Y.2.1 4))])), ((qr 1), .inl (y.1, 300, .inl (fun j => iz (Y.2.2 0 j)))), ((qr 2), .inl (y.1, 16, .inl (fun j => iz (Y.2.2 1 j)))), ((qr 3), .inl (y.1, 300, .inl (fun j => iz (Y.2.2 2 j)))), ((qr 4), .inl (y.1, 16, .inl (fun j => iz (Y.2.2 3 j))))]
def wJ (y : ClassId × ClassId × ClassId) (q : Nat → Nat) (Y : St × St × St × St × St) : va_W := [((q 0), .inr (3, [.ref (q 5), .ref (q 10), .ref (q 19), .ref (q 28), .ref (q 1), .ref (q 2), .ref (q 3), .ref (q 4), .int (iz (Y.1.1 8)), .int (iz (Y.1.1 9)), .int (iz (Y.1.1 10)), .int (iz (Y.1.1 11))])), ((q 1), .inl (y.1, 5, .inl (fun j => iz (Y.1.2 4 j)))), ((q 2), .inl (y.1, 300, .inl (fun j => iz (Y.1.2 5 j)))), ((q 3), .inl (y.1, 300, .inl (fun j => iz (Y.1.2 6 j)))), ((q 4), .inl (y.1, 300, .inl (fun j => iz (Y.1.2 7 j)))), ((q 5), .inr (1, [.ref (q 6), .ref (q 7), .ref (q 8), .ref (q 9), .int (iz (Y.2.1.1 4))])), ((q 6), .inl (y.1, 300, .inl (fun j => iz (Y.2.1.2 0 j)))), ((q 7), .inl (y.1, 16, .inl (fun j => iz (Y.2.1.2 1 j)))), ((q 8), .inl (y.1, 300, .inl (fun j => iz (Y.2.1.2 2 j)))), ((q 9), .inl (y.1, 16, .inl (fun j => iz (Y.2.1.2 3 j)))), ((q 10), .inr (2, [.ref (q 5), .ref (q 11), .ref (q 12), .ref (q 13), .ref (q 14), .ref (q 15), .ref (q 16), .ref (q 17), .ref (q 18), .int (iz (Y.2.2.1.1 9)), .int (iz (Y.2.2.1.1 10)), .int (iz (Y.2.2.1.1 11)), .int (iz (Y.2.2.1.1 12)), .int (iz (Y.2.2.1.1 13)), .int (iz (Y.2.2.1.1 14)), .int (iz (Y.2.2.1.1 15)), .int (iz (Y.2.2.1.1 16)), .int (iz (Y.2.2.1.1 17))])), ((q 11), .inl (y.1, 16, .inl (fun j => iz (Y.2.2.1.2 1 j)))), ((q 12), .inl (y.1, 5, .inl (fun j => iz (Y.2.2.1.2 2 j)))), ((q 13), .inl (y.1, 16, .inl (fun j => iz (Y.2.2.1.2 3 j)))), ((q 14), .inl (y.1, 16, .inl (fun j => iz (Y.2.2.1.2 4 j)))), ((q 15), .inl (y.1, 16, .inl (fun j => iz (Y.2.2.1.2 5 j)))), ((q 16), .inl (y.1, 16, .inl (fun j => iz (Y.2.2.1.2 6 j)))), ((q 17), .inl (y.1, 16, .inl (fun j => iz (Y.2.2.1.2 7 j)))), ((q 18), .inl (y.1, 8, .inl (fun j => iz (Y.2.2.1.2 8 j)))), ((q 19), .inr (2, [.ref (q 5), .ref (q 20), .ref (q 21), .ref (q 22), .ref (q 23), .ref (q 24), .ref (q 25), .ref (q 26), .ref (q 27), .int (iz (Y.2.2.2.1.1 9)), .int (iz (Y.2.2.2.1.1 10)), .int (iz (Y.2.2.2.1.1 11)), .int (iz (Y.2.2.2.1.1 12)), .int (iz (Y.2.2.2.1.1 13)), .int (iz (Y.2.2.2.1.1 14)), .int (iz (Y.2.2.2.1.1 15)), .int (iz (Y.2.2.2.1.1 16)), .int (iz (Y.2.2.2.1.1 17))])), ((q 20), .inl (y.1, 16, .inl (fun j => iz (Y.2.2.2.1.2 1 j)))), ((q 21), .inl (y.1, 5, .inl (fun j => iz (Y.2.2.2.1.2 2 j)))), ((q 22), .inl (y.1, 16, .inl (fun j => iz (Y.2.2.2.1.2 3 j)))), ((q 23), .inl (y.1, 16, .inl (fun j => iz (Y.2.2.2.1.2 4 j)))), ((q 24), .inl (y.1, 16, .inl (fun j => iz (Y.2.2.2.1.2 5 j)))), ((q 25), .inl (y.1, 16, .inl (fun j => iz (Y.2.2.2.1.2 6 j)))), ((q 26), .inl (y.1, 16, .inl (fun j => iz (Y.2.2.2.1.2 7 j)))), ((q 27), .inl (y.1, 8, .inl (fun j => iz (Y.2.2.2.1.2 8 j)))), ((q 28), .inr (0, [.ref (q 5), .ref (q 29), .ref (q 30), .ref (q 31), .ref (q 32), .ref (q 33), .ref (q 34), .ref (q 35), .int (iz (Y.2.2.2.2.1 8)), .int (iz (Y.2.2.2.2.1 9)), .int (iz (Y.2.2.2.2.1 10)), .int (iz (Y.2.2.2.2.1 11))])), ((q 29), .inl (y.1, 16, .inl (fun j => iz (Y.2.2.2.2.2 1 j)))), ((q 30), .inl (y.1, 16, .inl (fun j => iz (Y.2.2.2.2.2 2 j)))), ((q 31), .inl (y.1, 252, .inl (fun j => iz (Y.2.2.2.2.2 3 j)))), ((q 32), .inl (y.1, 1024, .inl (fun j => iz (Y.2.2.2.2.2 4 j)))), ((q 33), .inl (y.1, 1024, .inl (fun j => iz (Y.2.2.2.2.2 5 j)))), ((q 34), .inl (y.2.1, 4800, .inr (.inl (fun j => lz (Y.2.2.2.2.2 6 j))))), ((q 35), .inl (y.1, 300, .inl (fun j => iz (Y.2.2.2.2.2 7 j))))]
def wM (y : ClassId × ClassId × ClassId) (q : Nat → Nat) (Y : St) : va_W := [((q 0), .inr (4, [.ref (q 1), .ref (q 2), .int (iz (Y.1 2)), .int (iz (Y.1 3)), .int (iz (Y.1 4)), .int (iz (Y.1 5)), .ref (q 3), .ref (q 4), .ref (q 5), .int (iz (Y.1 9)), .ref (q 6), .int (iz (Y.1 11)), .int (iz (Y.1 12)), .ref (q 7), .ref (q 8), .ref (q 9), .ref (q 10), .ref (q 11), .ref (q 12), .ref (q 13), .ref (q 14), .ref (q 15), .int (iz (Y.1 22)), .int (iz (Y.1 23)), .int (iz (Y.1 24)), .int (iz (Y.1 25)), .int (iz (Y.1 26)), .int (iz (Y.1 27)), .int (iz (Y.1 28)), .ref (q 16), .ref (q 17), .int (iz (Y.1 31)), .ref (q 18), .ref (q 19)])), ((q 1), .inl (y.1, 16, .inl (fun j => iz (Y.2 0 j)))), ((q 2), .inl (y.1, 300, .inl (fun j => iz (Y.2 1 j)))), ((q 3), .inl (y.1, 300, .inl (fun j => iz (Y.2 6 j)))), ((q 4), .inl (y.1, 300, .inl (fun j => iz (Y.2 7 j)))), ((q 5), .inl (y.1, 300, .inl (fun j => iz (Y.2 8 j)))), ((q 6), .inl (y.1, 5, .inl (fun j => iz (Y.2 10 j)))), ((q 7), .inl (y.2.2, 16, .inl (fun j => iz (Y.2 13 j)))), ((q 8), .inl (y.1, 16, .inl (fun j => iz (Y.2 14 j)))), ((q 9), .inl (y.1, 16, .inl (fun j => iz (Y.2 15 j)))), ((q 10), .inl (y.1, 16, .inl (fun j => iz (Y.2 16 j)))), ((q 11), .inl (y.2.2, 16, .inl (fun j => iz (Y.2 17 j)))), ((q 12), .inl (y.1, 16, .inl (fun j => iz (Y.2 18 j)))), ((q 13), .inl (y.1, 16, .inl (fun j => iz (Y.2 19 j)))), ((q 14), .inl (y.1, 16, .inl (fun j => iz (Y.2 20 j)))), ((q 15), .inl (y.1, 16, .inl (fun j => iz (Y.2 21 j)))), ((q 16), .inl (y.1, 16, .inl (fun j => iz (Y.2 29 j)))), ((q 17), .inl (y.1, 308224, .inl (fun j => iz (Y.2 30 j)))), ((q 18), .inl (y.2.2, 16, .inl (fun j => iz (Y.2 32 j)))), ((q 19), .inl (y.2.2, 16, .inl (fun j => iz (Y.2 33 j))))]
set_option maxRecDepth 20000 in
theorem mf_X1_30 : Cond.fieldLink RX1 30 (TX1 4).1 (TX1 4).2.1 (TX1 4).2.2.1 ∈ lw_gd := gd_in (List.mem_append_right _ (List.mem_of_getElem? (i := 37) rfl)) rfl
set_option maxRecDepth 20000 in
theorem mf_X1_9 : Cond.fieldLink RX1 9 (TX1 0).1 (TX1 0).2.1 (TX1 0).2.2.1 ∈ lw_gd := gd_in (List.mem_append_right _ (List.mem_of_getElem? (i := 27) rfl)) rfl
set_option maxRecDepth 20000 in
theorem mf_X0_86 : Cond.fieldLink RX0 86 (TX0 8).1 (TX0 8).2.1 (TX0 8).2.2.1 ∈ lw_gd := gd_in (List.mem_append_right _ (List.mem_of_getElem? (i := 130) rfl)) rfl
set_option maxRecDepth 20000 in
theorem mf_X0_9 : Cond.fieldLink RX0 9 (TX0 1).1 (TX0 1).2.1 (TX0 1).2.2.1 ∈ lw_gd := gd_in (List.mem_append_right _ (List.mem_of_getElem? (i := 122) rfl)) rfl
set_option maxRecDepth 20000 in
theorem mf_X0_15 : Cond.fieldLink RX0 15 (TX0 2).1 (TX0 2).2.1 (TX0 2).2.2.1 ∈ lw_gd := gd_in (List.mem_append_right _ (List.mem_of_getElem? (i := 123) rfl)) rfl
set_option maxRecDepth 20000 in
theorem mf_X0_34 : Cond.fieldLink RX0 34 (TX0 0).1 (TX0 0).2.1 (TX0 0).2.2.1 ∈ lw_gd := gd_in (List.mem_append_right _ (List.mem_of_getElem? (i := 121) rfl)) rfl
set_option maxRecDepth 20000 in
theorem mw_X0_82 : VW RX0 82 RX1 yX1_bits cX1_bits 3 (some .int) 0 := ⟨gd_in (List.mem_append_right _ (List.mem_of_getElem? (i := 431) rfl)) rfl, gd_in (List.mem_append_right _ (List.mem_of_getElem? (i := 248) rfl)) rfl, gd_in (List.mem_append_right _ (List.mem_of_getElem? (i := 249) rfl)) rfl, gd_in (List.mem_append_right _ (List.mem_of_getElem? (i := 2) rfl)) rfl, gd_in (List.mem_append_right _ (List.mem_of_getElem? (i := 250) rfl)) rfl, by decide, by decide, by decide⟩
set_option maxRecDepth 20000 in
theorem mc_J6_265 : Cond.constant RJ6 265 (1431655765) ∈ lw_gd := gd_in (List.mem_append_right _ (List.mem_of_getElem? (i := 254) rfl)) rfl
set_option maxRecDepth 20000 in
theorem mc_J6_266 : Cond.constant RJ6 266 (858993459) ∈ lw_gd := gd_in (List.mem_append_right _ (List.mem_of_getElem? (i := 255) rfl)) rfl
set_option maxRecDepth 20000 in
theorem mc_J6_267 : Cond.constant RJ6 267 (252645135) ∈ lw_gd := gd_in (List.mem_append_right _ (List.mem_of_getElem? (i := 256) rfl)) rfl
set_option maxRecDepth 20000 in
theorem mf_X0_24 : Cond.fieldLink RX0 24 (TX0 5).1 (TX0 5).2.1 (TX0 5).2.2.1 ∈ lw_gd := gd_in (List.mem_append_right _ (List.mem_of_getElem? (i := 126) rfl)) rfl
set_option maxRecDepth 20000 in
theorem mw_X0_62 : SW RX0 62 yJ6_bitCount_0f7a4 cJ6_bitCount_0f7a4 1 (some .int) 1 := ⟨gd_in (List.mem_append_right _ (List.mem_of_getElem? (i := 436) rfl)) rfl, gd_in (List.mem_append_right _ (List.mem_of_getElem? (i := 252) rfl)) rfl, gd_in (List.mem_append_right _ (List.mem_of_getElem? (i := 7) rfl)) rfl, gd_in (List.mem_append_right _ (List.mem_of_getElem? (i := 253) rfl)) rfl, by decide, by decide, by decide⟩
set_option maxRecDepth 20000 in
theorem mf_X0_38 : Cond.fieldLink RX0 38 (TX0 10).1 (TX0 10).2.1 (TX0 10).2.2.1 ∈ lw_gd := gd_in (List.mem_append_right _ (List.mem_of_getElem? (i := 132) rfl)) rfl
set_option maxRecDepth 20000 in
theorem mf_X0_89 : Cond.fieldLink RX0 89 (TX0 9).1 (TX0 9).2.1 (TX0 9).2.2.1 ∈ lw_gd := gd_in (List.mem_append_right _ (List.mem_of_getElem? (i := 131) rfl)) rfl
set_option maxRecDepth 20000 in
theorem mf_X0_18 : Cond.fieldLink RX0 18 (TX0 3).1 (TX0 3).2.1 (TX0 3).2.2.1 ∈ lw_gd := gd_in (List.mem_append_right _ (List.mem_of_getElem? (i := 124) rfl)) rfl
set_option maxRecDepth 20000 in
theorem mf_X0_21 : Cond.fieldLink RX0 21 (TX0 4).1 (TX0 4).2.1 (TX0 4).2.2.1 ∈ lw_gd := gd_in (List.mem_append_right _ (List.mem_of_getElem? (i := 125) rfl)) rfl
set_option maxRecDepth 20000 in
theorem mf_X1_15 : Cond.fieldLink RX1 15 (TX1 1).1 (TX1 1).2.1 (TX1 1).2.2.1 ∈ lw_gd := gd_in (List.mem_append_right _ (List.mem_of_getElem? (i := 31) rfl)) rfl
set_option maxRecDepth 20000 in
theorem mf_X0_27 : Cond.fieldLink RX0 27 (TX0 6).1 (TX0 6).2.1 (TX0 6).2.2.1 ∈ lw_gd := gd_in (List.mem_append_right _ (List.mem_of_getElem? (i := 127) rfl)) rfl
set_option maxRecDepth 20000 in
theorem mc_X0_103 : Cond.constantLong RX0 103 (15) ∈ lw_gd := gd_in (List.mem_append_right _ (List.mem_of_getElem? (i := 450) rfl)) rfl
set_option maxRecDepth 20000 in
theorem mc_X0_105 : Cond.constantLong RX0 105 (-1) ∈ lw_gd := gd_in (List.mem_append_right _ (List.mem_of_getElem? (i := 451) rfl)) rfl
set_option maxRecDepth 20000 in
theorem mw_X0_92 : VW RX0 92 RX0 yX0_bestChoice cX0_bestChoice 8 (some .int) 2 := ⟨gd_in (List.mem_append_right _ (List.mem_of_getElem? (i := 442) rfl)) rfl, gd_in (List.mem_append_right _ (List.mem_of_getElem? (i := 443) rfl)) rfl, gd_in (List.mem_append_right _ (List.mem_of_getElem? (i := 444) rfl)) rfl, gd_in (List.mem_append_right _ (List.mem_of_getElem? (i := 5) rfl)) rfl, gd_in (List.mem_append_right _ (List.mem_of_getElem? (i := 445) rfl)) rfl, by decide, by decide, by decide⟩
set_option maxRecDepth 20000 in
theorem mw_X0_96 : VW RX0 96 RX0 yX0_keepChoice cX0_keepChoice 6 none 3 := ⟨gd_in (List.mem_append_right _ (List.mem_of_getElem? (i := 446) rfl)) rfl, gd_in (List.mem_append_right _ (List.mem_of_getElem? (i := 447) rfl)) rfl, gd_in (List.mem_append_right _ (List.mem_of_getElem? (i := 448) rfl)) rfl, gd_in (List.mem_append_right _ (List.mem_of_getElem? (i := 5) rfl)) rfl, gd_in (List.mem_append_right _ (List.mem_of_getElem? (i := 449) rfl)) rfl, by decide, by decide, by decide⟩
set_option maxRecDepth 20000 in
theorem mf_X0_68 : Cond.fieldLink RX0 68 (TX1 0).1 (TX1 0).2.1 (TX1 0).2.2.1 ∈ lw_gd := gd_in (List.mem_append_right _ (List.mem_of_getElem? (i := 28) rfl)) rfl
set_option maxRecDepth 20000 in
theorem mw_X0_71 : VW RX0 71 RX1 yX1_priceAt cX1_priceAt 2 (some .int) 1 := ⟨gd_in (List.mem_append_right _ (List.mem_of_getElem? (i := 437) rfl)) rfl, gd_in (List.mem_append_right _ (List.mem_of_getElem? (i := 262) rfl)) rfl, gd_in (List.mem_append_right _ (List.mem_of_getElem? (i := 263) rfl)) rfl, gd_in (List.mem_append_right _ (List.mem_of_getElem? (i := 2) rfl)) rfl, gd_in (List.mem_append_right _ (List.mem_of_getElem? (i := 264) rfl)) rfl, by decide, by decide, by decide⟩
set_option maxRecDepth 20000 in
theorem mf_X0_57 : Cond.fieldLink RX0 57 (TX1 4).1 (TX1 4).2.1 (TX1 4).2.2.1 ∈ lw_gd := gd_in (List.mem_append_right _ (List.mem_of_getElem? (i := 38) rfl)) rfl
set_option maxRecDepth 20000 in
theorem mw_X0_100 : VW RX0 100 RX0 yX0_keptChoice cX0_keptChoice 4 (some .int) 2 := ⟨gd_in (List.mem_append_right _ (List.mem_of_getElem? (i := 456) rfl)) rfl, gd_in (List.mem_append_right _ (List.mem_of_getElem? (i := 457) rfl)) rfl, gd_in (List.mem_append_right _ (List.mem_of_getElem? (i := 458) rfl)) rfl, gd_in (List.mem_append_right _ (List.mem_of_getElem? (i := 5) rfl)) rfl, gd_in (List.mem_append_right _ (List.mem_of_getElem? (i := 459) rfl)) rfl, by decide, by decide, by decide⟩
set_option maxRecDepth 20000 in
theorem mf_X0_31 : Cond.fieldLink RX0 31 (TX0 7).1 (TX0 7).2.1 (TX0 7).2.2.1 ∈ lw_gd := gd_in (List.mem_append_right _ (List.mem_of_getElem? (i := 128) rfl)) rfl
set_option maxRecDepth 20000 in
theorem mf_X0_42 : Cond.fieldLink RX0 42 (TX0 11).1 (TX0 11).2.1 (TX0 11).2.2.1 ∈ lw_gd := gd_in (List.mem_append_right _ (List.mem_of_getElem? (i := 134) rfl)) rfl
set_option maxRecDepth 20000 in
theorem mw_X0_78 : VW RX0 78 RX0 yX0_followChoices cX0_followChoices 7 none 2 := ⟨gd_in (List.mem_append_right _ (List.mem_of_getElem? (i := 452) rfl)) rfl, gd_in (List.mem_append_right _ (List.mem_of_getElem? (i := 453) rfl)) rfl, gd_in (List.mem_append_right _ (List.mem_of_getElem? (i := 454) rfl)) rfl, gd_in (List.mem_append_right _ (List.mem_of_getElem? (i := 5) rfl)) rfl, gd_in (List.mem_append_right _ (List.mem_of_getElem? (i := 455) rfl)) rfl, by decide, by decide, by decide⟩
set_option maxRecDepth 20000 in
theorem mw_X0_74 : VW RX0 74 RX0 yX0_fillAsking cX0_fillAsking 7 none 1 := ⟨gd_in (List.mem_append_right _ (List.mem_of_getElem? (i := 438) rfl)) rfl, gd_in (List.mem_append_right _ (List.mem_of_getElem? (i := 439) rfl)) rfl, gd_in (List.mem_append_right _ (List.mem_of_getElem? (i := 440) rfl)) rfl, gd_in (List.mem_append_right _ (List.mem_of_getElem? (i := 5) rfl)) rfl, gd_in (List.mem_append_right _ (List.mem_of_getElem? (i := 441) rfl)) rfl, by decide, by decide, by decide⟩
set_option maxRecDepth 20000 in
theorem mw_X0_45 : SW RX0 45 yJ7_fill_53178 cJ7_fill_53178 4 none 2 := ⟨gd_in (List.mem_append_right _ (List.mem_of_getElem? (i := 426) rfl)) rfl, gd_in (List.mem_append_right _ (List.mem_of_getElem? (i := 25) rfl)) rfl, gd_in (List.mem_append_right _ (List.mem_of_getElem? (i := 3) rfl)) rfl, gd_in (List.mem_append_right _ (List.mem_of_getElem? (i := 26) rfl)) rfl, by decide, by decide, by decide⟩
set_option maxRecDepth 20000 in
theorem mw_X0_51 : VW RX0 51 RX0 yX0_numberThings cX0_numberThings 3 none 0 := ⟨gd_in (List.mem_append_right _ (List.mem_of_getElem? (i := 427) rfl)) rfl, gd_in (List.mem_append_right _ (List.mem_of_getElem? (i := 428) rfl)) rfl, gd_in (List.mem_append_right _ (List.mem_of_getElem? (i := 429) rfl)) rfl, gd_in (List.mem_append_right _ (List.mem_of_getElem? (i := 5) rfl)) rfl, gd_in (List.mem_append_right _ (List.mem_of_getElem? (i := 430) rfl)) rfl, by decide, by decide, by decide⟩
set_option maxRecDepth 20000 in
theorem mw_X0_54 : VW RX0 54 RX0 yX0_listFullMasks cX0_listFullMasks 2 none 0 := ⟨gd_in (List.mem_append_right _ (List.mem_of_getElem? (i := 432) rfl)) rfl, gd_in (List.mem_append_right _ (List.mem_of_getElem? (i := 433) rfl)) rfl, gd_in (List.mem_append_right _ (List.mem_of_getElem? (i := 434) rfl)) rfl, gd_in (List.mem_append_right _ (List.mem_of_getElem? (i := 5) rfl)) rfl, gd_in (List.mem_append_right _ (List.mem_of_getElem? (i := 435) rfl)) rfl, by decide, by decide, by decide⟩
set_option maxRecDepth 20000 in
theorem mw_X1_34 : VW RX1 34 RX1 yX1_priceAt cX1_priceAt 2 (some .int) 1 := ⟨gd_in (List.mem_append_right _ (List.mem_of_getElem? (i := 261) rfl)) rfl, gd_in (List.mem_append_right _ (List.mem_of_getElem? (i := 262) rfl)) rfl, gd_in (List.mem_append_right _ (List.mem_of_getElem? (i := 263) rfl)) rfl, gd_in (List.mem_append_right _ (List.mem_of_getElem? (i := 2) rfl)) rfl, gd_in (List.mem_append_right _ (List.mem_of_getElem? (i := 264) rfl)) rfl, by decide, by decide, by decide⟩
set_option maxRecDepth 20000 in
theorem mw_X1_38 : VW RX1 38 RX1 yX1_bits cX1_bits 3 (some .int) 0 := ⟨gd_in (List.mem_append_right _ (List.mem_of_getElem? (i := 247) rfl)) rfl, gd_in (List.mem_append_right _ (List.mem_of_getElem? (i := 248) rfl)) rfl, gd_in (List.mem_append_right _ (List.mem_of_getElem? (i := 249) rfl)) rfl, gd_in (List.mem_append_right _ (List.mem_of_getElem? (i := 2) rfl)) rfl, gd_in (List.mem_append_right _ (List.mem_of_getElem? (i := 250) rfl)) rfl, by decide, by decide, by decide⟩
set_option maxRecDepth 20000 in
theorem mw_X1_42 : SW RX1 42 yJ6_bitCount_0f7a4 cJ6_bitCount_0f7a4 1 (some .int) 1 := ⟨gd_in (List.mem_append_right _ (List.mem_of_getElem? (i := 251) rfl)) rfl, gd_in (List.mem_append_right _ (List.mem_of_getElem? (i := 252) rfl)) rfl, gd_in (List.mem_append_right _ (List.mem_of_getElem? (i := 7) rfl)) rfl, gd_in (List.mem_append_right _ (List.mem_of_getElem? (i := 253) rfl)) rfl, by decide, by decide, by decide⟩
set_option maxRecDepth 20000 in
theorem mf_X1_18 : Cond.fieldLink RX1 18 (TX1 2).1 (TX1 2).2.1 (TX1 2).2.2.1 ∈ lw_gd := gd_in (List.mem_append_right _ (List.mem_of_getElem? (i := 34) rfl)) rfl
set_option maxRecDepth 20000 in
theorem mf_X1_21 : Cond.fieldLink RX1 21 (TX1 3).1 (TX1 3).2.1 (TX1 3).2.2.1 ∈ lw_gd := gd_in (List.mem_append_right _ (List.mem_of_getElem? (i := 36) rfl)) rfl
set_option maxRecDepth 20000 in
theorem mw_X1_24 : SW RX1 24 yJ7_fill_53178 cJ7_fill_53178 4 none 2 := ⟨gd_in (List.mem_append_right _ (List.mem_of_getElem? (i := 24) rfl)) rfl, gd_in (List.mem_append_right _ (List.mem_of_getElem? (i := 25) rfl)) rfl, gd_in (List.mem_append_right _ (List.mem_of_getElem? (i := 3) rfl)) rfl, gd_in (List.mem_append_right _ (List.mem_of_getElem? (i := 26) rfl)) rfl, by decide, by decide, by decide⟩
set_option maxRecDepth 20000 in
theorem mf_X2_44 : Cond.fieldLink RX2 44 (TX2 9).1 (TX2 9).2.1 (TX2 9).2.2.1 ∈ lw_gd := gd_in (List.mem_append_right _ (List.mem_of_getElem? (i := 68) rfl)) rfl
set_option maxRecDepth 20000 in
theorem mf_X2_40 : Cond.fieldLink RX2 40 (TX2 10).1 (TX2 10).2.1 (TX2 10).2.2.1 ∈ lw_gd := gd_in (List.mem_append_right _ (List.mem_of_getElem? (i := 69) rfl)) rfl
set_option maxRecDepth 20000 in
theorem mf_X2_9 : Cond.fieldLink RX2 9 (TX2 1).1 (TX2 1).2.1 (TX2 1).2.2.1 ∈ lw_gd := gd_in (List.mem_append_right _ (List.mem_of_getElem? (i := 60) rfl)) rfl
set_option maxRecDepth 20000 in
theorem mw_X2_47 : SW RX2 47 yJ7_fill_53178 cJ7_fill_53178 4 none 2 := ⟨gd_in (List.mem_append_right _ (List.mem_of_getElem? (i := 279) rfl)) rfl, gd_in (List.mem_append_right _ (List.mem_of_getElem? (i := 25) rfl)) rfl, gd_in (List.mem_append_right _ (List.mem_of_getElem? (i := 3) rfl)) rfl, gd_in (List.mem_append_right _ (List.mem_of_getElem? (i := 26) rfl)) rfl, by decide, by decide, by decide⟩
set_option maxRecDepth 20000 in
theorem mf_X2_15 : Cond.fieldLink RX2 15 (TX2 2).1 (TX2 2).2.1 (TX2 2).2.2.1 ∈ lw_gd := gd_in (List.mem_append_right _ (List.mem_of_getElem? (i := 61) rfl)) rfl
set_option maxRecDepth 20000 in
theorem mf_X2_53 : Cond.fieldLink RX2 53 (TX2 11).1 (TX2 11).2.1 (TX2 11).2.2.1 ∈ lw_gd := gd_in (List.mem_append_right _ (List.mem_of_getElem? (i := 70) rfl)) rfl
set_option maxRecDepth 20000 in
theorem mf_X2_56 : Cond.fieldLink RX2 56 (TX2 12).1 (TX2 12).2.1 (TX2 12).2.2.1 ∈ lw_gd := gd_in (List.mem_append_right _ (List.mem_of_getElem? (i := 71) rfl)) rfl
set_option maxRecDepth 20000 in
theorem mf_X2_59 : Cond.fieldLink RX2 59 (TX2 13).1 (TX2 13).2.1 (TX2 13).2.2.1 ∈ lw_gd := gd_in (List.mem_append_right _ (List.mem_of_getElem? (i := 72) rfl)) rfl
set_option maxRecDepth 20000 in
theorem mf_X2_62 : Cond.fieldLink RX2 62 (TX2 14).1 (TX2 14).2.1 (TX2 14).2.2.1 ∈ lw_gd := gd_in (List.mem_append_right _ (List.mem_of_getElem? (i := 73) rfl)) rfl
set_option maxRecDepth 20000 in
theorem mf_X2_65 : Cond.fieldLink RX2 65 (TX2 15).1 (TX2 15).2.1 (TX2 15).2.2.1 ∈ lw_gd := gd_in (List.mem_append_right _ (List.mem_of_getElem? (i := 74) rfl)) rfl
set_option maxRecDepth 20000 in
theorem mf_X2_68 : Cond.fieldLink RX2 68 (TX2 16).1 (TX2 16).2.1 (TX2 16).2.2.1 ∈ lw_gd := gd_in (List.mem_append_right _ (List.mem_of_getElem? (i := 75) rfl)) rfl
set_option maxRecDepth 20000 in
theorem mf_X2_36 : Cond.fieldLink RX2 36 (TX2 0).1 (TX2 0).2.1 (TX2 0).2.2.1 ∈ lw_gd := gd_in (List.mem_append_right _ (List.mem_of_getElem? (i := 59) rfl)) rfl
set_option maxRecDepth 20000 in
theorem mw_X2_71 : VW RX2 71 RX1 yX1_findNext cX1_findNext 2 none 0 := ⟨gd_in (List.mem_append_right _ (List.mem_of_getElem? (i := 280) rfl)) rfl, gd_in (List.mem_append_right _ (List.mem_of_getElem? (i := 281) rfl)) rfl, gd_in (List.mem_append_right _ (List.mem_of_getElem? (i := 282) rfl)) rfl, gd_in (List.mem_append_right _ (List.mem_of_getElem? (i := 2) rfl)) rfl, gd_in (List.mem_append_right _ (List.mem_of_getElem? (i := 283) rfl)) rfl, by decide, by decide, by decide⟩
set_option maxRecDepth 20000 in
theorem mf_X2_18 : Cond.fieldLink RX2 18 (TX2 3).1 (TX2 3).2.1 (TX2 3).2.2.1 ∈ lw_gd := gd_in (List.mem_append_right _ (List.mem_of_getElem? (i := 62) rfl)) rfl
set_option maxRecDepth 20000 in
theorem mf_X2_24 : Cond.fieldLink RX2 24 (TX2 5).1 (TX2 5).2.1 (TX2 5).2.2.1 ∈ lw_gd := gd_in (List.mem_append_right _ (List.mem_of_getElem? (i := 64) rfl)) rfl
set_option maxRecDepth 20000 in
theorem mw_X2_112 : VW RX2 112 RX2 yX2_hasBooks cX2_hasBooks 1 (some .boolean) 0 := ⟨gd_in (List.mem_append_right _ (List.mem_of_getElem? (i := 297) rfl)) rfl, gd_in (List.mem_append_right _ (List.mem_of_getElem? (i := 298) rfl)) rfl, gd_in (List.mem_append_right _ (List.mem_of_getElem? (i := 299) rfl)) rfl, gd_in (List.mem_append_right _ (List.mem_of_getElem? (i := 4) rfl)) rfl, gd_in (List.mem_append_right _ (List.mem_of_getElem? (i := 300) rfl)) rfl, by decide, by decide, by decide⟩
set_option maxRecDepth 20000 in
theorem mw_X2_116 : VW RX2 116 RX2 yX2_move cX2_move 3 none 2 := ⟨gd_in (List.mem_append_right _ (List.mem_of_getElem? (i := 301) rfl)) rfl, gd_in (List.mem_append_right _ (List.mem_of_getElem? (i := 302) rfl)) rfl, gd_in (List.mem_append_right _ (List.mem_of_getElem? (i := 303) rfl)) rfl, gd_in (List.mem_append_right _ (List.mem_of_getElem? (i := 4) rfl)) rfl, gd_in (List.mem_append_right _ (List.mem_of_getElem? (i := 304) rfl)) rfl, by decide, by decide, by decide⟩
set_option maxRecDepth 20000 in
theorem mw_X2_137 : SW RX2 137 yJ9_max_7cf53 cJ9_max_7cf53 2 (some .int) 2 := ⟨gd_in (List.mem_append_right _ (List.mem_of_getElem? (i := 316) rfl)) rfl, gd_in (List.mem_append_right _ (List.mem_of_getElem? (i := 317) rfl)) rfl, gd_in (List.mem_append_right _ (List.mem_of_getElem? (i := 8) rfl)) rfl, gd_in (List.mem_append_right _ (List.mem_of_getElem? (i := 318) rfl)) rfl, by decide, by decide, by decide⟩
set_option maxRecDepth 20000 in
theorem mw_X2_131 : SW RX2 131 yJ9_min_7cf53 cJ9_min_7cf53 2 (some .int) 2 := ⟨gd_in (List.mem_append_right _ (List.mem_of_getElem? (i := 313) rfl)) rfl, gd_in (List.mem_append_right _ (List.mem_of_getElem? (i := 314) rfl)) rfl, gd_in (List.mem_append_right _ (List.mem_of_getElem? (i := 8) rfl)) rfl, gd_in (List.mem_append_right _ (List.mem_of_getElem? (i := 315) rfl)) rfl, by decide, by decide, by decide⟩
set_option maxRecDepth 20000 in
theorem mw_X2_152 : SW RX2 152 yJ6_bitCount_0f7a4 cJ6_bitCount_0f7a4 1 (some .int) 1 := ⟨gd_in (List.mem_append_right _ (List.mem_of_getElem? (i := 331) rfl)) rfl, gd_in (List.mem_append_right _ (List.mem_of_getElem? (i := 252) rfl)) rfl, gd_in (List.mem_append_right _ (List.mem_of_getElem? (i := 7) rfl)) rfl, gd_in (List.mem_append_right _ (List.mem_of_getElem? (i := 253) rfl)) rfl, by decide, by decide, by decide⟩
set_option maxRecDepth 20000 in
theorem mf_X2_21 : Cond.fieldLink RX2 21 (TX2 4).1 (TX2 4).2.1 (TX2 4).2.2.1 ∈ lw_gd := gd_in (List.mem_append_right _ (List.mem_of_getElem? (i := 63) rfl)) rfl
set_option maxRecDepth 20000 in
theorem mf_X2_27 : Cond.fieldLink RX2 27 (TX2 6).1 (TX2 6).2.1 (TX2 6).2.2.1 ∈ lw_gd := gd_in (List.mem_append_right _ (List.mem_of_getElem? (i := 65) rfl)) rfl
set_option maxRecDepth 20000 in
theorem mf_X2_163 : Cond.fieldLink RX2 163 (TX1 2).1 (TX1 2).2.1 (TX1 2).2.2.1 ∈ lw_gd := gd_in (List.mem_append_right _ (List.mem_of_getElem? (i := 35) rfl)) rfl
set_option maxRecDepth 20000 in
theorem mw_X2_160 : VW RX2 160 RX2 yX2_keyOf cX2_keyOf 2 (some .int) 1 := ⟨gd_in (List.mem_append_right _ (List.mem_of_getElem? (i := 336) rfl)) rfl, gd_in (List.mem_append_right _ (List.mem_of_getElem? (i := 337) rfl)) rfl, gd_in (List.mem_append_right _ (List.mem_of_getElem? (i := 338) rfl)) rfl, gd_in (List.mem_append_right _ (List.mem_of_getElem? (i := 4) rfl)) rfl, gd_in (List.mem_append_right _ (List.mem_of_getElem? (i := 339) rfl)) rfl, by decide, by decide, by decide⟩
set_option maxRecDepth 20000 in
theorem mf_X2_33 : Cond.fieldLink RX2 33 (TX2 8).1 (TX2 8).2.1 (TX2 8).2.2.1 ∈ lw_gd := gd_in (List.mem_append_right _ (List.mem_of_getElem? (i := 67) rfl)) rfl
set_option maxRecDepth 20000 in
theorem mw_X2_157 : VW RX2 157 RX2 yX2_moveHandOn cX2_moveHandOn 1 none 0 := ⟨gd_in (List.mem_append_right _ (List.mem_of_getElem? (i := 344) rfl)) rfl, gd_in (List.mem_append_right _ (List.mem_of_getElem? (i := 345) rfl)) rfl, gd_in (List.mem_append_right _ (List.mem_of_getElem? (i := 346) rfl)) rfl, gd_in (List.mem_append_right _ (List.mem_of_getElem? (i := 4) rfl)) rfl, gd_in (List.mem_append_right _ (List.mem_of_getElem? (i := 347) rfl)) rfl, by decide, by decide, by decide⟩
set_option maxRecDepth 20000 in
theorem mw_X2_143 : VW RX2 143 RX2 yX2_firstOf cX2_firstOf 8 (some .int) 1 := ⟨gd_in (List.mem_append_right _ (List.mem_of_getElem? (i := 332) rfl)) rfl, gd_in (List.mem_append_right _ (List.mem_of_getElem? (i := 333) rfl)) rfl, gd_in (List.mem_append_right _ (List.mem_of_getElem? (i := 334) rfl)) rfl, gd_in (List.mem_append_right _ (List.mem_of_getElem? (i := 4) rfl)) rfl, gd_in (List.mem_append_right _ (List.mem_of_getElem? (i := 335) rfl)) rfl, by decide, by decide, by decide⟩
set_option maxRecDepth 20000 in
theorem mw_X2_140 : VW RX2 140 RX2 yX2_endFullRound cX2_endFullRound 1 none 0 := ⟨gd_in (List.mem_append_right _ (List.mem_of_getElem? (i := 327) rfl)) rfl, gd_in (List.mem_append_right _ (List.mem_of_getElem? (i := 328) rfl)) rfl, gd_in (List.mem_append_right _ (List.mem_of_getElem? (i := 329) rfl)) rfl, gd_in (List.mem_append_right _ (List.mem_of_getElem? (i := 4) rfl)) rfl, gd_in (List.mem_append_right _ (List.mem_of_getElem? (i := 330) rfl)) rfl, by decide, by decide, by decide⟩
set_option maxRecDepth 20000 in
theorem mw_X2_146 : VW RX2 146 RX2 yX2_turnHand cX2_turnHand 2 (some .int) 0 := ⟨gd_in (List.mem_append_right _ (List.mem_of_getElem? (i := 340) rfl)) rfl, gd_in (List.mem_append_right _ (List.mem_of_getElem? (i := 341) rfl)) rfl, gd_in (List.mem_append_right _ (List.mem_of_getElem? (i := 342) rfl)) rfl, gd_in (List.mem_append_right _ (List.mem_of_getElem? (i := 4) rfl)) rfl, gd_in (List.mem_append_right _ (List.mem_of_getElem? (i := 343) rfl)) rfl, by decide, by decide, by decide⟩
set_option maxRecDepth 20000 in
theorem mw_X2_149 : VW RX2 149 RX2 yX2_partThatLoses cX2_partThatLoses 2 (some .int) 1 := ⟨gd_in (List.mem_append_right _ (List.mem_of_getElem? (i := 348) rfl)) rfl, gd_in (List.mem_append_right _ (List.mem_of_getElem? (i := 349) rfl)) rfl, gd_in (List.mem_append_right _ (List.mem_of_getElem? (i := 350) rfl)) rfl, gd_in (List.mem_append_right _ (List.mem_of_getElem? (i := 4) rfl)) rfl, gd_in (List.mem_append_right _ (List.mem_of_getElem? (i := 351) rfl)) rfl, by decide, by decide, by decide⟩
set_option maxRecDepth 20000 in
theorem mw_X2_166 : VW RX2 166 RX2 yX2_bookFor cX2_bookFor 2 (some .int) 1 := ⟨gd_in (List.mem_append_right _ (List.mem_of_getElem? (i := 356) rfl)) rfl, gd_in (List.mem_append_right _ (List.mem_of_getElem? (i := 357) rfl)) rfl, gd_in (List.mem_append_right _ (List.mem_of_getElem? (i := 358) rfl)) rfl, gd_in (List.mem_append_right _ (List.mem_of_getElem? (i := 4) rfl)) rfl, gd_in (List.mem_append_right _ (List.mem_of_getElem? (i := 359) rfl)) rfl, by decide, by decide, by decide⟩
set_option maxRecDepth 20000 in
theorem mf_X2_30 : Cond.fieldLink RX2 30 (TX2 7).1 (TX2 7).2.1 (TX2 7).2.2.1 ∈ lw_gd := gd_in (List.mem_append_right _ (List.mem_of_getElem? (i := 66) rfl)) rfl
set_option maxRecDepth 20000 in
theorem mw_X2_119 : VW RX2 119 RX2 yX2_partFor cX2_partFor 3 (some .int) 1 := ⟨gd_in (List.mem_append_right _ (List.mem_of_getElem? (i := 309) rfl)) rfl, gd_in (List.mem_append_right _ (List.mem_of_getElem? (i := 310) rfl)) rfl, gd_in (List.mem_append_right _ (List.mem_of_getElem? (i := 311) rfl)) rfl, gd_in (List.mem_append_right _ (List.mem_of_getElem? (i := 4) rfl)) rfl, gd_in (List.mem_append_right _ (List.mem_of_getElem? (i := 312) rfl)) rfl, by decide, by decide, by decide⟩
set_option maxRecDepth 20000 in
theorem mw_X2_122 : VW RX2 122 RX2 yX2_lying cX2_lying 1 (some .int) 0 := ⟨gd_in (List.mem_append_right _ (List.mem_of_getElem? (i := 319) rfl)) rfl, gd_in (List.mem_append_right _ (List.mem_of_getElem? (i := 320) rfl)) rfl, gd_in (List.mem_append_right _ (List.mem_of_getElem? (i := 321) rfl)) rfl, gd_in (List.mem_append_right _ (List.mem_of_getElem? (i := 4) rfl)) rfl, gd_in (List.mem_append_right _ (List.mem_of_getElem? (i := 322) rfl)) rfl, by decide, by decide, by decide⟩
set_option maxRecDepth 20000 in
theorem mw_X2_125 : VW RX2 125 RX2 yX2_chooseGoing cX2_chooseGoing 1 (some .int) 0 := ⟨gd_in (List.mem_append_right _ (List.mem_of_getElem? (i := 323) rfl)) rfl, gd_in (List.mem_append_right _ (List.mem_of_getElem? (i := 324) rfl)) rfl, gd_in (List.mem_append_right _ (List.mem_of_getElem? (i := 325) rfl)) rfl, gd_in (List.mem_append_right _ (List.mem_of_getElem? (i := 4) rfl)) rfl, gd_in (List.mem_append_right _ (List.mem_of_getElem? (i := 326) rfl)) rfl, by decide, by decide, by decide⟩
set_option maxRecDepth 20000 in
theorem mw_X2_128 : VW RX2 128 RX2 yX2_takeAway cX2_takeAway 3 none 1 := ⟨gd_in (List.mem_append_right _ (List.mem_of_getElem? (i := 352) rfl)) rfl, gd_in (List.mem_append_right _ (List.mem_of_getElem? (i := 353) rfl)) rfl, gd_in (List.mem_append_right _ (List.mem_of_getElem? (i := 354) rfl)) rfl, gd_in (List.mem_append_right _ (List.mem_of_getElem? (i := 4) rfl)) rfl, gd_in (List.mem_append_right _ (List.mem_of_getElem? (i := 355) rfl)) rfl, by decide, by decide, by decide⟩
set_option maxRecDepth 20000 in
theorem mf_X2_109 : Cond.fieldLink RX2 109 (TX1 1).1 (TX1 1).2.1 (TX1 1).2.2.1 ∈ lw_gd := gd_in (List.mem_append_right _ (List.mem_of_getElem? (i := 33) rfl)) rfl
set_option maxRecDepth 20000 in
theorem mw_X2_91 : VW RX2 91 RX1 yX1_has cX1_has 2 (some .boolean) 1 := ⟨gd_in (List.mem_append_right _ (List.mem_of_getElem? (i := 288) rfl)) rfl, gd_in (List.mem_append_right _ (List.mem_of_getElem? (i := 228) rfl)) rfl, gd_in (List.mem_append_right _ (List.mem_of_getElem? (i := 229) rfl)) rfl, gd_in (List.mem_append_right _ (List.mem_of_getElem? (i := 2) rfl)) rfl, gd_in (List.mem_append_right _ (List.mem_of_getElem? (i := 230) rfl)) rfl, by decide, by decide, by decide⟩
set_option maxRecDepth 20000 in
theorem mf_X2_95 : Cond.fieldLink RX2 95 (TX1 0).1 (TX1 0).2.1 (TX1 0).2.2.1 ∈ lw_gd := gd_in (List.mem_append_right _ (List.mem_of_getElem? (i := 29) rfl)) rfl
set_option maxRecDepth 20000 in
theorem mw_X2_98 : VW RX2 98 RX2 yX2_lies cX2_lies 2 (some .boolean) 1 := ⟨gd_in (List.mem_append_right _ (List.mem_of_getElem? (i := 289) rfl)) rfl, gd_in (List.mem_append_right _ (List.mem_of_getElem? (i := 290) rfl)) rfl, gd_in (List.mem_append_right _ (List.mem_of_getElem? (i := 291) rfl)) rfl, gd_in (List.mem_append_right _ (List.mem_of_getElem? (i := 4) rfl)) rfl, gd_in (List.mem_append_right _ (List.mem_of_getElem? (i := 292) rfl)) rfl, by decide, by decide, by decide⟩
set_option maxRecDepth 20000 in
theorem mf_X2_87 : Cond.fieldLink RX2 87 (TX2 17).1 (TX2 17).2.1 (TX2 17).2.2.1 ∈ lw_gd := gd_in (List.mem_append_right _ (List.mem_of_getElem? (i := 76) rfl)) rfl
set_option maxRecDepth 20000 in
theorem mw_X2_105 : VW RX2 105 RX2 yX2_bring cX2_bring 5 (some .int) 1 := ⟨gd_in (List.mem_append_right _ (List.mem_of_getElem? (i := 305) rfl)) rfl, gd_in (List.mem_append_right _ (List.mem_of_getElem? (i := 306) rfl)) rfl, gd_in (List.mem_append_right _ (List.mem_of_getElem? (i := 307) rfl)) rfl, gd_in (List.mem_append_right _ (List.mem_of_getElem? (i := 4) rfl)) rfl, gd_in (List.mem_append_right _ (List.mem_of_getElem? (i := 308) rfl)) rfl, by decide, by decide, by decide⟩
set_option maxRecDepth 20000 in
theorem mw_X2_101 : VW RX2 101 RX2 yX2_meet cX2_meet 2 none 1 := ⟨gd_in (List.mem_append_right _ (List.mem_of_getElem? (i := 293) rfl)) rfl, gd_in (List.mem_append_right _ (List.mem_of_getElem? (i := 294) rfl)) rfl, gd_in (List.mem_append_right _ (List.mem_of_getElem? (i := 295) rfl)) rfl, gd_in (List.mem_append_right _ (List.mem_of_getElem? (i := 4) rfl)) rfl, gd_in (List.mem_append_right _ (List.mem_of_getElem? (i := 296) rfl)) rfl, by decide, by decide, by decide⟩
set_option maxRecDepth 20000 in
theorem mf_X2_80 : Cond.fieldLink RX2 80 (TX1 4).1 (TX1 4).2.1 (TX1 4).2.2.1 ∈ lw_gd := gd_in (List.mem_append_right _ (List.mem_of_getElem? (i := 39) rfl)) rfl
set_option maxRecDepth 20000 in
theorem mw_X2_83 : VW RX2 83 RX2 yX2_step cX2_step 3 (some .int) 0 := ⟨gd_in (List.mem_append_right _ (List.mem_of_getElem? (i := 388) rfl)) rfl, gd_in (List.mem_append_right _ (List.mem_of_getElem? (i := 285) rfl)) rfl, gd_in (List.mem_append_right _ (List.mem_of_getElem? (i := 286) rfl)) rfl, gd_in (List.mem_append_right _ (List.mem_of_getElem? (i := 4) rfl)) rfl, gd_in (List.mem_append_right _ (List.mem_of_getElem? (i := 287) rfl)) rfl, by decide, by decide, by decide⟩
set_option maxRecDepth 20000 in
theorem mw_X2_76 : VW RX2 76 RX2 yX2_begin cX2_begin 3 none 2 := ⟨gd_in (List.mem_append_right _ (List.mem_of_getElem? (i := 387) rfl)) rfl, gd_in (List.mem_append_right _ (List.mem_of_getElem? (i := 276) rfl)) rfl, gd_in (List.mem_append_right _ (List.mem_of_getElem? (i := 277) rfl)) rfl, gd_in (List.mem_append_right _ (List.mem_of_getElem? (i := 4) rfl)) rfl, gd_in (List.mem_append_right _ (List.mem_of_getElem? (i := 278) rfl)) rfl, by decide, by decide, by decide⟩
set_option maxRecDepth 20000 in
theorem mf_X3_52 : Cond.fieldLink RX3 52 (TX3 11).1 (TX3 11).2.1 (TX3 11).2.2.1 ∈ lw_gd := gd_in (List.mem_append_right _ (List.mem_of_getElem? (i := 173) rfl)) rfl
set_option maxRecDepth 20000 in
theorem mf_X3_31 : Cond.fieldLink RX3 31 (TX3 3).1 (TX3 3).2.1 (TX3 3).2.2.1 ∈ lw_gd := gd_in (List.mem_append_right _ (List.mem_of_getElem? (i := 165) rfl)) rfl
set_option maxRecDepth 20000 in
theorem mf_X3_163 : Cond.fieldLink RX3 163 (TX0 10).1 (TX0 10).2.1 (TX0 10).2.2.1 ∈ lw_gd := gd_in (List.mem_append_right _ (List.mem_of_getElem? (i := 133) rfl)) rfl
set_option maxRecDepth 20000 in
theorem mw_X3_56 : SW RX3 56 yX3_isThing cX3_isThing 1 (some .boolean) 1 := ⟨gd_in (List.mem_append_right _ (List.mem_of_getElem? (i := 203) rfl)) rfl, gd_in (List.mem_append_right _ (List.mem_of_getElem? (i := 204) rfl)) rfl, gd_in (List.mem_append_right _ (List.mem_of_getElem? (i := 1) rfl)) rfl, gd_in (List.mem_append_right _ (List.mem_of_getElem? (i := 205) rfl)) rfl, by decide, by decide, by decide⟩
set_option maxRecDepth 20000 in
theorem mf_X3_10 : Cond.fieldLink RX3 10 (TX3 0).1 (TX3 0).2.1 (TX3 0).2.2.1 ∈ lw_gd := gd_in (List.mem_append_right _ (List.mem_of_getElem? (i := 162) rfl)) rfl
set_option maxRecDepth 20000 in
theorem mf_X3_60 : Cond.fieldLink RX3 60 (TX1 1).1 (TX1 1).2.1 (TX1 1).2.2.1 ∈ lw_gd := gd_in (List.mem_append_right _ (List.mem_of_getElem? (i := 32) rfl)) rfl
set_option maxRecDepth 20000 in
theorem mw_X3_63 : VW RX3 63 RX3 yX3_forget cX3_forget 1 none 0 := ⟨gd_in (List.mem_append_right _ (List.mem_of_getElem? (i := 206) rfl)) rfl, gd_in (List.mem_append_right _ (List.mem_of_getElem? (i := 208) rfl)) rfl, gd_in (List.mem_append_left _ (List.mem_of_getElem? (i := 0) rfl)) rfl, gd_in (List.mem_append_right _ (List.mem_of_getElem? (i := 1) rfl)) rfl, gd_in (List.mem_append_right _ (List.mem_of_getElem? (i := 209) rfl)) rfl, by decide, by decide, by decide⟩
set_option maxRecDepth 20000 in
theorem mf_X3_66 : Cond.fieldLink RX3 66 (TX1 4).1 (TX1 4).2.1 (TX1 4).2.2.1 ∈ lw_gd := gd_in (List.mem_append_right _ (List.mem_of_getElem? (i := 40) rfl)) rfl
set_option maxRecDepth 20000 in
theorem mf_X3_35 : Cond.fieldLink RX3 35 (TX3 4).1 (TX3 4).2.1 (TX3 4).2.2.1 ∈ lw_gd := gd_in (List.mem_append_right _ (List.mem_of_getElem? (i := 166) rfl)) rfl
set_option maxRecDepth 20000 in
theorem mw_X3_69 : VW RX3 69 RX1 yX1_append cX1_append 2 none 1 := ⟨gd_in (List.mem_append_right _ (List.mem_of_getElem? (i := 214) rfl)) rfl, gd_in (List.mem_append_right _ (List.mem_of_getElem? (i := 215) rfl)) rfl, gd_in (List.mem_append_right _ (List.mem_of_getElem? (i := 216) rfl)) rfl, gd_in (List.mem_append_right _ (List.mem_of_getElem? (i := 2) rfl)) rfl, gd_in (List.mem_append_right _ (List.mem_of_getElem? (i := 217) rfl)) rfl, by decide, by decide, by decide⟩
set_option maxRecDepth 20000 in
theorem mc_X3_73 : Cond.constant RX3 73 (1103515245) ∈ lw_gd := gd_in (List.mem_append_right _ (List.mem_of_getElem? (i := 222) rfl)) rfl
set_option maxRecDepth 20000 in
theorem mw_X3_74 : VW RX3 74 RX1 yX1_has cX1_has 2 (some .boolean) 1 := ⟨gd_in (List.mem_append_right _ (List.mem_of_getElem? (i := 227) rfl)) rfl, gd_in (List.mem_append_right _ (List.mem_of_getElem? (i := 228) rfl)) rfl, gd_in (List.mem_append_right _ (List.mem_of_getElem? (i := 229) rfl)) rfl, gd_in (List.mem_append_right _ (List.mem_of_getElem? (i := 2) rfl)) rfl, gd_in (List.mem_append_right _ (List.mem_of_getElem? (i := 230) rfl)) rfl, by decide, by decide, by decide⟩
set_option maxRecDepth 20000 in
theorem mf_X3_77 : Cond.fieldLink RX3 77 (TX1 0).1 (TX1 0).2.1 (TX1 0).2.2.1 ∈ lw_gd := gd_in (List.mem_append_right _ (List.mem_of_getElem? (i := 30) rfl)) rfl
set_option maxRecDepth 20000 in
theorem mw_X3_80 : VW RX3 80 RX1 yX1_unlike cX1_unlike 1 (some .int) 0 := ⟨gd_in (List.mem_append_right _ (List.mem_of_getElem? (i := 243) rfl)) rfl, gd_in (List.mem_append_right _ (List.mem_of_getElem? (i := 244) rfl)) rfl, gd_in (List.mem_append_right _ (List.mem_of_getElem? (i := 245) rfl)) rfl, gd_in (List.mem_append_right _ (List.mem_of_getElem? (i := 2) rfl)) rfl, gd_in (List.mem_append_right _ (List.mem_of_getElem? (i := 246) rfl)) rfl, by decide, by decide, by decide⟩
set_option maxRecDepth 20000 in
theorem mf_X3_48 : Cond.fieldLink RX3 48 (TX3 8).1 (TX3 8).2.1 (TX3 8).2.2.1 ∈ lw_gd := gd_in (List.mem_append_right _ (List.mem_of_getElem? (i := 170) rfl)) rfl
set_option maxRecDepth 20000 in
theorem mw_X3_84 : VW RX3 84 RX1 yX1_priceOfAll cX1_priceOfAll 3 (some .int) 0 := ⟨gd_in (List.mem_append_right _ (List.mem_of_getElem? (i := 257) rfl)) rfl, gd_in (List.mem_append_right _ (List.mem_of_getElem? (i := 258) rfl)) rfl, gd_in (List.mem_append_right _ (List.mem_of_getElem? (i := 259) rfl)) rfl, gd_in (List.mem_append_right _ (List.mem_of_getElem? (i := 2) rfl)) rfl, gd_in (List.mem_append_right _ (List.mem_of_getElem? (i := 260) rfl)) rfl, by decide, by decide, by decide⟩
set_option maxRecDepth 20000 in
theorem mf_X3_97 : Cond.fieldLink RX3 97 (TX3 9).1 (TX3 9).2.1 (TX3 9).2.2.1 ∈ lw_gd := gd_in (List.mem_append_right _ (List.mem_of_getElem? (i := 171) rfl)) rfl
set_option maxRecDepth 20000 in
theorem mf_X3_21 : Cond.fieldLink RX3 21 (TX3 1).1 (TX3 1).2.1 (TX3 1).2.2.1 ∈ lw_gd := gd_in (List.mem_append_right _ (List.mem_of_getElem? (i := 163) rfl)) rfl
set_option maxRecDepth 20000 in
theorem mf_X3_106 : Cond.fieldLink RX3 106 (TX2 17).1 (TX2 17).2.1 (TX2 17).2.2.1 ∈ lw_gd := gd_in (List.mem_append_right _ (List.mem_of_getElem? (i := 77) rfl)) rfl
set_option maxRecDepth 20000 in
theorem mf_X3_100 : Cond.fieldLink RX3 100 (TX3 10).1 (TX3 10).2.1 (TX3 10).2.2.1 ∈ lw_gd := gd_in (List.mem_append_right _ (List.mem_of_getElem? (i := 172) rfl)) rfl
set_option maxRecDepth 20000 in
theorem mw_X3_109 : VW RX3 109 RX1 yX1_priceAt cX1_priceAt 2 (some .int) 1 := ⟨gd_in (List.mem_append_right _ (List.mem_of_getElem? (i := 360) rfl)) rfl, gd_in (List.mem_append_right _ (List.mem_of_getElem? (i := 262) rfl)) rfl, gd_in (List.mem_append_right _ (List.mem_of_getElem? (i := 263) rfl)) rfl, gd_in (List.mem_append_right _ (List.mem_of_getElem? (i := 2) rfl)) rfl, gd_in (List.mem_append_right _ (List.mem_of_getElem? (i := 264) rfl)) rfl, by decide, by decide, by decide⟩
set_option maxRecDepth 20000 in
theorem mf_X3_45 : Cond.fieldLink RX3 45 (TX3 7).1 (TX3 7).2.1 (TX3 7).2.2.1 ∈ lw_gd := gd_in (List.mem_append_right _ (List.mem_of_getElem? (i := 169) rfl)) rfl
set_option maxRecDepth 20000 in
theorem mw_X3_103 : VW RX3 103 RX2 yX2_step cX2_step 3 (some .int) 0 := ⟨gd_in (List.mem_append_right _ (List.mem_of_getElem? (i := 284) rfl)) rfl, gd_in (List.mem_append_right _ (List.mem_of_getElem? (i := 285) rfl)) rfl, gd_in (List.mem_append_right _ (List.mem_of_getElem? (i := 286) rfl)) rfl, gd_in (List.mem_append_right _ (List.mem_of_getElem? (i := 4) rfl)) rfl, gd_in (List.mem_append_right _ (List.mem_of_getElem? (i := 287) rfl)) rfl, by decide, by decide, by decide⟩
set_option maxRecDepth 20000 in
theorem mf_X3_42 : Cond.fieldLink RX3 42 (TX3 6).1 (TX3 6).2.1 (TX3 6).2.2.1 ∈ lw_gd := gd_in (List.mem_append_right _ (List.mem_of_getElem? (i := 168) rfl)) rfl
set_option maxRecDepth 20000 in
theorem mw_X3_87 : SW RX3 87 yX3_isWay cX3_isWay 1 (some .boolean) 1 := ⟨gd_in (List.mem_append_right _ (List.mem_of_getElem? (i := 269) rfl)) rfl, gd_in (List.mem_append_right _ (List.mem_of_getElem? (i := 270) rfl)) rfl, gd_in (List.mem_append_right _ (List.mem_of_getElem? (i := 1) rfl)) rfl, gd_in (List.mem_append_right _ (List.mem_of_getElem? (i := 271) rfl)) rfl, by decide, by decide, by decide⟩
set_option maxRecDepth 20000 in
theorem mw_X3_90 : SW RX3 90 yX3_isPlaces cX3_isPlaces 1 (some .boolean) 1 := ⟨gd_in (List.mem_append_right _ (List.mem_of_getElem? (i := 272) rfl)) rfl, gd_in (List.mem_append_right _ (List.mem_of_getElem? (i := 273) rfl)) rfl, gd_in (List.mem_append_right _ (List.mem_of_getElem? (i := 1) rfl)) rfl, gd_in (List.mem_append_right _ (List.mem_of_getElem? (i := 274) rfl)) rfl, by decide, by decide, by decide⟩
set_option maxRecDepth 20000 in
theorem mw_X3_93 : VW RX3 93 RX2 yX2_begin cX2_begin 3 none 2 := ⟨gd_in (List.mem_append_right _ (List.mem_of_getElem? (i := 275) rfl)) rfl, gd_in (List.mem_append_right _ (List.mem_of_getElem? (i := 276) rfl)) rfl, gd_in (List.mem_append_right _ (List.mem_of_getElem? (i := 277) rfl)) rfl, gd_in (List.mem_append_right _ (List.mem_of_getElem? (i := 4) rfl)) rfl, gd_in (List.mem_append_right _ (List.mem_of_getElem? (i := 278) rfl)) rfl, by decide, by decide, by decide⟩
set_option maxRecDepth 20000 in
theorem mc_X3_113 : Cond.constant RX3 113 (-2147483648) ∈ lw_gd := gd_in (List.mem_append_right _ (List.mem_of_getElem? (i := 377) rfl)) rfl
set_option maxRecDepth 20000 in
theorem mw_X3_114 : VW RX3 114 RX2 yX2_knowsOfThing cX2_knowsOfThing 2 (some .boolean) 1 := ⟨gd_in (List.mem_append_right _ (List.mem_of_getElem? (i := 378) rfl)) rfl, gd_in (List.mem_append_right _ (List.mem_of_getElem? (i := 379) rfl)) rfl, gd_in (List.mem_append_right _ (List.mem_of_getElem? (i := 380) rfl)) rfl, gd_in (List.mem_append_right _ (List.mem_of_getElem? (i := 4) rfl)) rfl, gd_in (List.mem_append_right _ (List.mem_of_getElem? (i := 381) rfl)) rfl, by decide, by decide, by decide⟩
set_option maxRecDepth 20000 in
theorem mw_X3_118 : VW RX3 118 RX2 yX2_standBehind cX2_standBehind 3 none 1 := ⟨gd_in (List.mem_append_right _ (List.mem_of_getElem? (i := 383) rfl)) rfl, gd_in (List.mem_append_right _ (List.mem_of_getElem? (i := 384) rfl)) rfl, gd_in (List.mem_append_right _ (List.mem_of_getElem? (i := 385) rfl)) rfl, gd_in (List.mem_append_right _ (List.mem_of_getElem? (i := 4) rfl)) rfl, gd_in (List.mem_append_right _ (List.mem_of_getElem? (i := 386) rfl)) rfl, by decide, by decide, by decide⟩
set_option maxRecDepth 20000 in
theorem mw_X3_121 : VW RX3 121 RX2 yX2_tellOfThing cX2_tellOfThing 3 (some .int) 2 := ⟨gd_in (List.mem_append_right _ (List.mem_of_getElem? (i := 389) rfl)) rfl, gd_in (List.mem_append_right _ (List.mem_of_getElem? (i := 390) rfl)) rfl, gd_in (List.mem_append_right _ (List.mem_of_getElem? (i := 391) rfl)) rfl, gd_in (List.mem_append_right _ (List.mem_of_getElem? (i := 4) rfl)) rfl, gd_in (List.mem_append_right _ (List.mem_of_getElem? (i := 392) rfl)) rfl, by decide, by decide, by decide⟩
set_option maxRecDepth 20000 in
theorem mc_X3_117 : Cond.constant RX3 117 (-2147483647) ∈ lw_gd := gd_in (List.mem_append_right _ (List.mem_of_getElem? (i := 382) rfl)) rfl
set_option maxRecDepth 20000 in
theorem mw_X3_125 : VW RX3 125 RX2 yX2_knowsOfAll cX2_knowsOfAll 2 (some .boolean) 1 := ⟨gd_in (List.mem_append_right _ (List.mem_of_getElem? (i := 397) rfl)) rfl, gd_in (List.mem_append_right _ (List.mem_of_getElem? (i := 398) rfl)) rfl, gd_in (List.mem_append_right _ (List.mem_of_getElem? (i := 399) rfl)) rfl, gd_in (List.mem_append_right _ (List.mem_of_getElem? (i := 4) rfl)) rfl, gd_in (List.mem_append_right _ (List.mem_of_getElem? (i := 400) rfl)) rfl, by decide, by decide, by decide⟩
set_option maxRecDepth 20000 in
theorem mw_X3_128 : VW RX3 128 RX2 yX2_tellOfAll cX2_tellOfAll 2 (some .int) 1 := ⟨gd_in (List.mem_append_right _ (List.mem_of_getElem? (i := 401) rfl)) rfl, gd_in (List.mem_append_right _ (List.mem_of_getElem? (i := 402) rfl)) rfl, gd_in (List.mem_append_right _ (List.mem_of_getElem? (i := 403) rfl)) rfl, gd_in (List.mem_append_right _ (List.mem_of_getElem? (i := 4) rfl)) rfl, gd_in (List.mem_append_right _ (List.mem_of_getElem? (i := 404) rfl)) rfl, by decide, by decide, by decide⟩
set_option maxRecDepth 20000 in
theorem mf_X3_25 : Cond.fieldLink RX3 25 (TX3 2).1 (TX3 2).2.1 (TX3 2).2.2.1 ∈ lw_gd := gd_in (List.mem_append_right _ (List.mem_of_getElem? (i := 164) rfl)) rfl
set_option maxRecDepth 20000 in
theorem mw_X3_131 : VW RX3 131 RX2 yX2_missesBy cX2_missesBy 5 (some .int) 2 := ⟨gd_in (List.mem_append_right _ (List.mem_of_getElem? (i := 409) rfl)) rfl, gd_in (List.mem_append_right _ (List.mem_of_getElem? (i := 410) rfl)) rfl, gd_in (List.mem_append_right _ (List.mem_of_getElem? (i := 411) rfl)) rfl, gd_in (List.mem_append_right _ (List.mem_of_getElem? (i := 4) rfl)) rfl, gd_in (List.mem_append_right _ (List.mem_of_getElem? (i := 412) rfl)) rfl, by decide, by decide, by decide⟩
set_option maxRecDepth 20000 in
theorem mc_X3_134 : Cond.constantFloat RX3 134 (1176256512) ∈ lw_gd := gd_in (List.mem_append_right _ (List.mem_of_getElem? (i := 417) rfl)) rfl
set_option maxRecDepth 20000 in
theorem mw_X3_135 : VW RX3 135 RX0 yX0_prepare cX0_prepare 5 none 1 := ⟨gd_in (List.mem_append_right _ (List.mem_of_getElem? (i := 422) rfl)) rfl, gd_in (List.mem_append_right _ (List.mem_of_getElem? (i := 423) rfl)) rfl, gd_in (List.mem_append_right _ (List.mem_of_getElem? (i := 424) rfl)) rfl, gd_in (List.mem_append_right _ (List.mem_of_getElem? (i := 5) rfl)) rfl, gd_in (List.mem_append_right _ (List.mem_of_getElem? (i := 425) rfl)) rfl, by decide, by decide, by decide⟩
set_option maxRecDepth 20000 in
theorem mf_X3_138 : Cond.fieldLink RX3 138 (TX0 11).1 (TX0 11).2.1 (TX0 11).2.2.1 ∈ lw_gd := gd_in (List.mem_append_right _ (List.mem_of_getElem? (i := 135) rfl)) rfl
set_option maxRecDepth 20000 in
theorem mf_X3_141 : Cond.fieldLink RX3 141 (TX0 7).1 (TX0 7).2.1 (TX0 7).2.2.1 ∈ lw_gd := gd_in (List.mem_append_right _ (List.mem_of_getElem? (i := 129) rfl)) rfl
set_option maxRecDepth 20000 in
theorem mw_X3_144 : VW RX3 144 RX1 yX1_phaseAt cX1_phaseAt 7 (some .int) 2 := ⟨gd_in (List.mem_append_right _ (List.mem_of_getElem? (i := 468) rfl)) rfl, gd_in (List.mem_append_right _ (List.mem_of_getElem? (i := 469) rfl)) rfl, gd_in (List.mem_append_right _ (List.mem_of_getElem? (i := 470) rfl)) rfl, gd_in (List.mem_append_right _ (List.mem_of_getElem? (i := 2) rfl)) rfl, gd_in (List.mem_append_right _ (List.mem_of_getElem? (i := 471) rfl)) rfl, by decide, by decide, by decide⟩
set_option maxRecDepth 20000 in
theorem mw_X3_147 : VW RX3 147 RX1 yX1_distanceAt cX1_distanceAt 4 (some .int) 1 := ⟨gd_in (List.mem_append_right _ (List.mem_of_getElem? (i := 480) rfl)) rfl, gd_in (List.mem_append_right _ (List.mem_of_getElem? (i := 481) rfl)) rfl, gd_in (List.mem_append_right _ (List.mem_of_getElem? (i := 482) rfl)) rfl, gd_in (List.mem_append_right _ (List.mem_of_getElem? (i := 2) rfl)) rfl, gd_in (List.mem_append_right _ (List.mem_of_getElem? (i := 483) rfl)) rfl, by decide, by decide, by decide⟩
set_option maxRecDepth 20000 in
theorem mw_X3_150 : VW RX3 150 RX2 yX2_leastAbsent cX2_leastAbsent 2 (some .int) 0 := ⟨gd_in (List.mem_append_right _ (List.mem_of_getElem? (i := 492) rfl)) rfl, gd_in (List.mem_append_right _ (List.mem_of_getElem? (i := 493) rfl)) rfl, gd_in (List.mem_append_right _ (List.mem_of_getElem? (i := 494) rfl)) rfl, gd_in (List.mem_append_right _ (List.mem_of_getElem? (i := 4) rfl)) rfl, gd_in (List.mem_append_right _ (List.mem_of_getElem? (i := 495) rfl)) rfl, by decide, by decide, by decide⟩
set_option maxRecDepth 20000 in
theorem mf_X3_39 : Cond.fieldLink RX3 39 (TX3 5).1 (TX3 5).2.1 (TX3 5).2.2.1 ∈ lw_gd := gd_in (List.mem_append_right _ (List.mem_of_getElem? (i := 167) rfl)) rfl
set_option maxRecDepth 20000 in
theorem mw_X3_166 : SW RX3 166 yJ6_bitCount_0f7a4 cJ6_bitCount_0f7a4 1 (some .int) 1 := ⟨gd_in (List.mem_append_right _ (List.mem_of_getElem? (i := 518) rfl)) rfl, gd_in (List.mem_append_right _ (List.mem_of_getElem? (i := 252) rfl)) rfl, gd_in (List.mem_append_right _ (List.mem_of_getElem? (i := 7) rfl)) rfl, gd_in (List.mem_append_right _ (List.mem_of_getElem? (i := 253) rfl)) rfl, by decide, by decide, by decide⟩
set_option maxRecDepth 20000 in
theorem mw_X3_159 : SW RX3 159 yX3_canGo cX3_canGo 5 (some .boolean) 4 := ⟨gd_in (List.mem_append_right _ (List.mem_of_getElem? (i := 515) rfl)) rfl, gd_in (List.mem_append_right _ (List.mem_of_getElem? (i := 516) rfl)) rfl, gd_in (List.mem_append_right _ (List.mem_of_getElem? (i := 1) rfl)) rfl, gd_in (List.mem_append_right _ (List.mem_of_getElem? (i := 517) rfl)) rfl, by decide, by decide, by decide⟩
set_option maxRecDepth 20000 in
theorem mw_X4_69 : SW RX4 69 yX4_in cX4_in 3 (some .boolean) 3 := ⟨gd_in (List.mem_append_right _ (List.mem_of_getElem? (i := 641) rfl)) rfl, gd_in (List.mem_append_right _ (List.mem_of_getElem? (i := 642) rfl)) rfl, gd_in (List.mem_append_right _ (List.mem_of_getElem? (i := 6) rfl)) rfl, gd_in (List.mem_append_right _ (List.mem_of_getElem? (i := 643) rfl)) rfl, by decide, by decide, by decide⟩
set_option maxRecDepth 20000 in
theorem mf_X4_73 : Cond.fieldLink RX4 73 (TX4 2).1 (TX4 2).2.1 (TX4 2).2.2.1 ∈ lw_gd := gd_in (List.mem_append_right _ (List.mem_of_getElem? (i := 532) rfl)) rfl
set_option maxRecDepth 20000 in
theorem mw_X4_77 : SW RX4 77 yX4_isThing cX4_isThing 1 (some .boolean) 1 := ⟨gd_in (List.mem_append_right _ (List.mem_of_getElem? (i := 638) rfl)) rfl, gd_in (List.mem_append_right _ (List.mem_of_getElem? (i := 639) rfl)) rfl, gd_in (List.mem_append_right _ (List.mem_of_getElem? (i := 6) rfl)) rfl, gd_in (List.mem_append_right _ (List.mem_of_getElem? (i := 640) rfl)) rfl, by decide, by decide, by decide⟩
set_option maxRecDepth 20000 in
theorem mf_X4_81 : Cond.fieldLink RX4 81 (TX4 3).1 (TX4 3).2.1 (TX4 3).2.2.1 ∈ lw_gd := gd_in (List.mem_append_right _ (List.mem_of_getElem? (i := 533) rfl)) rfl
set_option maxRecDepth 20000 in
theorem mf_X4_7 : Cond.fieldLink RX4 7 (TX4 0).1 (TX4 0).2.1 (TX4 0).2.2.1 ∈ lw_gd := gd_in (List.mem_append_right _ (List.mem_of_getElem? (i := 530) rfl)) rfl
set_option maxRecDepth 20000 in
theorem mf_X4_13 : Cond.fieldLink RX4 13 (TX4 1).1 (TX4 1).2.1 (TX4 1).2.2.1 ∈ lw_gd := gd_in (List.mem_append_right _ (List.mem_of_getElem? (i := 531) rfl)) rfl
set_option maxRecDepth 20000 in
theorem mf_X4_25 : Cond.fieldLink RX4 25 (TX4 10).1 (TX4 10).2.1 (TX4 10).2.2.1 ∈ lw_gd := gd_in (List.mem_append_right _ (List.mem_of_getElem? (i := 540) rfl)) rfl
set_option maxRecDepth 20000 in
theorem mw_X4_85 : VW RX4 85 RX4 yX4_add cX4_add 2 none 1 := ⟨gd_in (List.mem_append_right _ (List.mem_of_getElem? (i := 648) rfl)) rfl, gd_in (List.mem_append_right _ (List.mem_of_getElem? (i := 650) rfl)) rfl, gd_in (List.mem_append_left _ (List.mem_of_getElem? (i := 1) rfl)) rfl, gd_in (List.mem_append_right _ (List.mem_of_getElem? (i := 6) rfl)) rfl, gd_in (List.mem_append_right _ (List.mem_of_getElem? (i := 651) rfl)) rfl, by decide, by decide, by decide⟩
set_option maxRecDepth 20000 in
theorem mc_X4_89 : Cond.constant RX4 89 (1103515245) ∈ lw_gd := gd_in (List.mem_append_right _ (List.mem_of_getElem? (i := 656) rfl)) rfl
set_option maxRecDepth 20000 in
theorem mw_X4_90 : VW RX4 90 RX4 yX4_isAsking cX4_isAsking 2 (some .boolean) 1 := ⟨gd_in (List.mem_append_right _ (List.mem_of_getElem? (i := 661) rfl)) rfl, gd_in (List.mem_append_right _ (List.mem_of_getElem? (i := 663) rfl)) rfl, gd_in (List.mem_append_left _ (List.mem_of_getElem? (i := 2) rfl)) rfl, gd_in (List.mem_append_right _ (List.mem_of_getElem? (i := 6) rfl)) rfl, gd_in (List.mem_append_right _ (List.mem_of_getElem? (i := 664) rfl)) rfl, by decide, by decide, by decide⟩
set_option maxRecDepth 20000 in
theorem mw_X4_93 : VW RX4 93 RX4 yX4_unlike cX4_unlike 5 (some .int) 0 := ⟨gd_in (List.mem_append_right _ (List.mem_of_getElem? (i := 677) rfl)) rfl, gd_in (List.mem_append_right _ (List.mem_of_getElem? (i := 679) rfl)) rfl, gd_in (List.mem_append_left _ (List.mem_of_getElem? (i := 3) rfl)) rfl, gd_in (List.mem_append_right _ (List.mem_of_getElem? (i := 6) rfl)) rfl, gd_in (List.mem_append_right _ (List.mem_of_getElem? (i := 680) rfl)) rfl, by decide, by decide, by decide⟩
set_option maxRecDepth 20000 in
theorem mf_X4_97 : Cond.fieldLink RX4 97 (TX4 9).1 (TX4 9).2.1 (TX4 9).2.2.1 ∈ lw_gd := gd_in (List.mem_append_right _ (List.mem_of_getElem? (i := 539) rfl)) rfl
set_option maxRecDepth 20000 in
theorem mw_X4_100 : VW RX4 100 RX4 yX4_allPrices cX4_allPrices 3 (some .int) 0 := ⟨gd_in (List.mem_append_right _ (List.mem_of_getElem? (i := 681) rfl)) rfl, gd_in (List.mem_append_right _ (List.mem_of_getElem? (i := 683) rfl)) rfl, gd_in (List.mem_append_left _ (List.mem_of_getElem? (i := 4) rfl)) rfl, gd_in (List.mem_append_right _ (List.mem_of_getElem? (i := 6) rfl)) rfl, gd_in (List.mem_append_right _ (List.mem_of_getElem? (i := 684) rfl)) rfl, by decide, by decide, by decide⟩
set_option maxRecDepth 20000 in
theorem mf_X4_28 : Cond.fieldLink RX4 28 (TX4 13).1 (TX4 13).2.1 (TX4 13).2.2.1 ∈ lw_gd := gd_in (List.mem_append_right _ (List.mem_of_getElem? (i := 543) rfl)) rfl
set_option maxRecDepth 20000 in
theorem mf_X4_41 : Cond.fieldLink RX4 41 (TX4 17).1 (TX4 17).2.1 (TX4 17).2.2.1 ∈ lw_gd := gd_in (List.mem_append_right _ (List.mem_of_getElem? (i := 547) rfl)) rfl
set_option maxRecDepth 20000 in
theorem mf_X4_47 : Cond.fieldLink RX4 47 (TX4 19).1 (TX4 19).2.1 (TX4 19).2.2.1 ∈ lw_gd := gd_in (List.mem_append_right _ (List.mem_of_getElem? (i := 549) rfl)) rfl
set_option maxRecDepth 20000 in
theorem mf_X4_38 : Cond.fieldLink RX4 38 (TX4 16).1 (TX4 16).2.1 (TX4 16).2.2.1 ∈ lw_gd := gd_in (List.mem_append_right _ (List.mem_of_getElem? (i := 546) rfl)) rfl
set_option maxRecDepth 20000 in
theorem mf_X4_53 : Cond.fieldLink RX4 53 (TX4 21).1 (TX4 21).2.1 (TX4 21).2.2.1 ∈ lw_gd := gd_in (List.mem_append_right _ (List.mem_of_getElem? (i := 551) rfl)) rfl
set_option maxRecDepth 20000 in
theorem mf_X4_44 : Cond.fieldLink RX4 44 (TX4 18).1 (TX4 18).2.1 (TX4 18).2.2.1 ∈ lw_gd := gd_in (List.mem_append_right _ (List.mem_of_getElem? (i := 548) rfl)) rfl
set_option maxRecDepth 20000 in
theorem mf_X4_103 : Cond.fieldLink RX4 103 (TX4 11).1 (TX4 11).2.1 (TX4 11).2.2.1 ∈ lw_gd := gd_in (List.mem_append_right _ (List.mem_of_getElem? (i := 541) rfl)) rfl
set_option maxRecDepth 20000 in
theorem mf_X4_106 : Cond.fieldLink RX4 106 (TX4 12).1 (TX4 12).2.1 (TX4 12).2.2.1 ∈ lw_gd := gd_in (List.mem_append_right _ (List.mem_of_getElem? (i := 542) rfl)) rfl
set_option maxRecDepth 20000 in
theorem mf_X4_109 : Cond.fieldLink RX4 109 (TX4 22).1 (TX4 22).2.1 (TX4 22).2.2.1 ∈ lw_gd := gd_in (List.mem_append_right _ (List.mem_of_getElem? (i := 552) rfl)) rfl
set_option maxRecDepth 20000 in
theorem mf_X4_112 : Cond.fieldLink RX4 112 (TX4 23).1 (TX4 23).2.1 (TX4 23).2.2.1 ∈ lw_gd := gd_in (List.mem_append_right _ (List.mem_of_getElem? (i := 553) rfl)) rfl
set_option maxRecDepth 20000 in
theorem mf_X4_115 : Cond.fieldLink RX4 115 (TX4 24).1 (TX4 24).2.1 (TX4 24).2.2.1 ∈ lw_gd := gd_in (List.mem_append_right _ (List.mem_of_getElem? (i := 554) rfl)) rfl
set_option maxRecDepth 20000 in
theorem mf_X4_118 : Cond.fieldLink RX4 118 (TX4 25).1 (TX4 25).2.1 (TX4 25).2.2.1 ∈ lw_gd := gd_in (List.mem_append_right _ (List.mem_of_getElem? (i := 555) rfl)) rfl
set_option maxRecDepth 20000 in
theorem mf_X4_121 : Cond.fieldLink RX4 121 (TX4 26).1 (TX4 26).2.1 (TX4 26).2.2.1 ∈ lw_gd := gd_in (List.mem_append_right _ (List.mem_of_getElem? (i := 556) rfl)) rfl
set_option maxRecDepth 20000 in
theorem mf_X4_50 : Cond.fieldLink RX4 50 (TX4 20).1 (TX4 20).2.1 (TX4 20).2.2.1 ∈ lw_gd := gd_in (List.mem_append_right _ (List.mem_of_getElem? (i := 550) rfl)) rfl
set_option maxRecDepth 20000 in
theorem mf_X4_35 : Cond.fieldLink RX4 35 (TX4 15).1 (TX4 15).2.1 (TX4 15).2.2.1 ∈ lw_gd := gd_in (List.mem_append_right _ (List.mem_of_getElem? (i := 545) rfl)) rfl
set_option maxRecDepth 20000 in
theorem mf_X4_32 : Cond.fieldLink RX4 32 (TX4 14).1 (TX4 14).2.1 (TX4 14).2.2.1 ∈ lw_gd := gd_in (List.mem_append_right _ (List.mem_of_getElem? (i := 544) rfl)) rfl
set_option maxRecDepth 20000 in
theorem mw_X4_124 : VW RX4 124 RX4 yX4_resting cX4_resting 6 (some .int) 2 := ⟨gd_in (List.mem_append_right _ (List.mem_of_getElem? (i := 713) rfl)) rfl, gd_in (List.mem_append_right _ (List.mem_of_getElem? (i := 715) rfl)) rfl, gd_in (List.mem_append_left _ (List.mem_of_getElem? (i := 11) rfl)) rfl, gd_in (List.mem_append_right _ (List.mem_of_getElem? (i := 6) rfl)) rfl, gd_in (List.mem_append_right _ (List.mem_of_getElem? (i := 716) rfl)) rfl, by decide, by decide, by decide⟩
set_option maxRecDepth 20000 in
theorem mw_X4_128 : VW RX4 128 RX4 yX4_atPlace cX4_atPlace 4 (some .int) 1 := ⟨gd_in (List.mem_append_right _ (List.mem_of_getElem? (i := 725) rfl)) rfl, gd_in (List.mem_append_right _ (List.mem_of_getElem? (i := 727) rfl)) rfl, gd_in (List.mem_append_left _ (List.mem_of_getElem? (i := 14) rfl)) rfl, gd_in (List.mem_append_right _ (List.mem_of_getElem? (i := 6) rfl)) rfl, gd_in (List.mem_append_right _ (List.mem_of_getElem? (i := 728) rfl)) rfl, by decide, by decide, by decide⟩
set_option maxRecDepth 20000 in
theorem mw_X4_132 : VW RX4 132 RX4 yX4_partSize cX4_partSize 4 (some .int) 1 := ⟨gd_in (List.mem_append_right _ (List.mem_of_getElem? (i := 737) rfl)) rfl, gd_in (List.mem_append_right _ (List.mem_of_getElem? (i := 739) rfl)) rfl, gd_in (List.mem_append_left _ (List.mem_of_getElem? (i := 17) rfl)) rfl, gd_in (List.mem_append_right _ (List.mem_of_getElem? (i := 6) rfl)) rfl, gd_in (List.mem_append_right _ (List.mem_of_getElem? (i := 740) rfl)) rfl, by decide, by decide, by decide⟩
set_option maxRecDepth 20000 in
theorem mw_X4_135 : VW RX4 135 RX4 yX4_firstIn cX4_firstIn 4 (some .int) 1 := ⟨gd_in (List.mem_append_right _ (List.mem_of_getElem? (i := 741) rfl)) rfl, gd_in (List.mem_append_right _ (List.mem_of_getElem? (i := 743) rfl)) rfl, gd_in (List.mem_append_left _ (List.mem_of_getElem? (i := 18) rfl)) rfl, gd_in (List.mem_append_right _ (List.mem_of_getElem? (i := 6) rfl)) rfl, gd_in (List.mem_append_right _ (List.mem_of_getElem? (i := 744) rfl)) rfl, by decide, by decide, by decide⟩
set_option maxRecDepth 20000 in
theorem mw_X4_138 : VW RX4 138 RX4 yX4_toBook cX4_toBook 4 none 3 := ⟨gd_in (List.mem_append_right _ (List.mem_of_getElem? (i := 745) rfl)) rfl, gd_in (List.mem_append_right _ (List.mem_of_getElem? (i := 747) rfl)) rfl, gd_in (List.mem_append_left _ (List.mem_of_getElem? (i := 19) rfl)) rfl, gd_in (List.mem_append_right _ (List.mem_of_getElem? (i := 6) rfl)) rfl, gd_in (List.mem_append_right _ (List.mem_of_getElem? (i := 748) rfl)) rfl, by decide, by decide, by decide⟩
set_option maxRecDepth 20000 in
theorem mw_X4_142 : VW RX4 142 RX4 yX4_askedNext cX4_askedNext 4 (some .int) 2 := ⟨gd_in (List.mem_append_right _ (List.mem_of_getElem? (i := 753) rfl)) rfl, gd_in (List.mem_append_right _ (List.mem_of_getElem? (i := 755) rfl)) rfl, gd_in (List.mem_append_left _ (List.mem_of_getElem? (i := 21) rfl)) rfl, gd_in (List.mem_append_right _ (List.mem_of_getElem? (i := 6) rfl)) rfl, gd_in (List.mem_append_right _ (List.mem_of_getElem? (i := 756) rfl)) rfl, by decide, by decide, by decide⟩
set_option maxRecDepth 20000 in
theorem mw_X4_159 : VW RX4 159 RX4 yX4_ofTwoParts cX4_ofTwoParts 6 (some .int) 1 := ⟨gd_in (List.mem_append_right _ (List.mem_of_getElem? (i := 733) rfl)) rfl, gd_in (List.mem_append_right _ (List.mem_of_getElem? (i := 735) rfl)) rfl, gd_in (List.mem_append_left _ (List.mem_of_getElem? (i := 16) rfl)) rfl, gd_in (List.mem_append_right _ (List.mem_of_getElem? (i := 6) rfl)) rfl, gd_in (List.mem_append_right _ (List.mem_of_getElem? (i := 736) rfl)) rfl, by decide, by decide, by decide⟩
set_option maxRecDepth 20000 in
theorem mw_X4_146 : VW RX4 146 RX4 yX4_oldest cX4_oldest 3 (some .int) 0 := ⟨gd_in (List.mem_append_right _ (List.mem_of_getElem? (i := 709) rfl)) rfl, gd_in (List.mem_append_right _ (List.mem_of_getElem? (i := 711) rfl)) rfl, gd_in (List.mem_append_left _ (List.mem_of_getElem? (i := 10) rfl)) rfl, gd_in (List.mem_append_right _ (List.mem_of_getElem? (i := 6) rfl)) rfl, gd_in (List.mem_append_right _ (List.mem_of_getElem? (i := 712) rfl)) rfl, by decide, by decide, by decide⟩
set_option maxRecDepth 20000 in
theorem mw_X4_149 : VW RX4 149 RX4 yX4_unmarked cX4_unmarked 3 (some .int) 0 := ⟨gd_in (List.mem_append_right _ (List.mem_of_getElem? (i := 717) rfl)) rfl, gd_in (List.mem_append_right _ (List.mem_of_getElem? (i := 719) rfl)) rfl, gd_in (List.mem_append_left _ (List.mem_of_getElem? (i := 12) rfl)) rfl, gd_in (List.mem_append_right _ (List.mem_of_getElem? (i := 6) rfl)) rfl, gd_in (List.mem_append_right _ (List.mem_of_getElem? (i := 720) rfl)) rfl, by decide, by decide, by decide⟩
set_option maxRecDepth 20000 in
theorem mw_X4_152 : VW RX4 152 RX4 yX4_atHand cX4_atHand 2 (some .int) 0 := ⟨gd_in (List.mem_append_right _ (List.mem_of_getElem? (i := 721) rfl)) rfl, gd_in (List.mem_append_right _ (List.mem_of_getElem? (i := 723) rfl)) rfl, gd_in (List.mem_append_left _ (List.mem_of_getElem? (i := 13) rfl)) rfl, gd_in (List.mem_append_right _ (List.mem_of_getElem? (i := 6) rfl)) rfl, gd_in (List.mem_append_right _ (List.mem_of_getElem? (i := 724) rfl)) rfl, by decide, by decide, by decide⟩
set_option maxRecDepth 20000 in
theorem mw_X4_155 : VW RX4 155 RX4 yX4_least cX4_least 5 (some .int) 1 := ⟨gd_in (List.mem_append_right _ (List.mem_of_getElem? (i := 729) rfl)) rfl, gd_in (List.mem_append_right _ (List.mem_of_getElem? (i := 731) rfl)) rfl, gd_in (List.mem_append_left _ (List.mem_of_getElem? (i := 15) rfl)) rfl, gd_in (List.mem_append_right _ (List.mem_of_getElem? (i := 6) rfl)) rfl, gd_in (List.mem_append_right _ (List.mem_of_getElem? (i := 732) rfl)) rfl, by decide, by decide, by decide⟩
set_option maxRecDepth 20000 in
theorem mw_X4_162 : VW RX4 162 RX4 yX4_latestAhead cX4_latestAhead 6 (some .int) 1 := ⟨gd_in (List.mem_append_right _ (List.mem_of_getElem? (i := 749) rfl)) rfl, gd_in (List.mem_append_right _ (List.mem_of_getElem? (i := 751) rfl)) rfl, gd_in (List.mem_append_left _ (List.mem_of_getElem? (i := 20) rfl)) rfl, gd_in (List.mem_append_right _ (List.mem_of_getElem? (i := 6) rfl)) rfl, gd_in (List.mem_append_right _ (List.mem_of_getElem? (i := 752) rfl)) rfl, by decide, by decide, by decide⟩
set_option maxRecDepth 20000 in
theorem mf_X4_165 : Cond.fieldLink RX4 165 (TX4 27).1 (TX4 27).2.1 (TX4 27).2.2.1 ∈ lw_gd := gd_in (List.mem_append_right _ (List.mem_of_getElem? (i := 557) rfl)) rfl
set_option maxRecDepth 20000 in
theorem mf_X4_168 : Cond.fieldLink RX4 168 (TX4 28).1 (TX4 28).2.1 (TX4 28).2.2.1 ∈ lw_gd := gd_in (List.mem_append_right _ (List.mem_of_getElem? (i := 558) rfl)) rfl
set_option maxRecDepth 20000 in
theorem mw_X4_175 : VW RX4 175 RX4 yX4_fromBook cX4_fromBook 3 (some .boolean) 1 := ⟨gd_in (List.mem_append_right _ (List.mem_of_getElem? (i := 701) rfl)) rfl, gd_in (List.mem_append_right _ (List.mem_of_getElem? (i := 703) rfl)) rfl, gd_in (List.mem_append_left _ (List.mem_of_getElem? (i := 8) rfl)) rfl, gd_in (List.mem_append_right _ (List.mem_of_getElem? (i := 6) rfl)) rfl, gd_in (List.mem_append_right _ (List.mem_of_getElem? (i := 704) rfl)) rfl, by decide, by decide, by decide⟩
set_option maxRecDepth 20000 in
theorem mw_X4_178 : VW RX4 178 RX4 yX4_chosen cX4_chosen 2 (some .int) 1 := ⟨gd_in (List.mem_append_right _ (List.mem_of_getElem? (i := 705) rfl)) rfl, gd_in (List.mem_append_right _ (List.mem_of_getElem? (i := 707) rfl)) rfl, gd_in (List.mem_append_left _ (List.mem_of_getElem? (i := 9) rfl)) rfl, gd_in (List.mem_append_right _ (List.mem_of_getElem? (i := 6) rfl)) rfl, gd_in (List.mem_append_right _ (List.mem_of_getElem? (i := 708) rfl)) rfl, by decide, by decide, by decide⟩
set_option maxRecDepth 20000 in
theorem mw_X4_181 : VW RX4 181 RX4 yX4_leave cX4_leave 2 none 1 := ⟨gd_in (List.mem_append_right _ (List.mem_of_getElem? (i := 757) rfl)) rfl, gd_in (List.mem_append_right _ (List.mem_of_getElem? (i := 759) rfl)) rfl, gd_in (List.mem_append_left _ (List.mem_of_getElem? (i := 22) rfl)) rfl, gd_in (List.mem_append_right _ (List.mem_of_getElem? (i := 6) rfl)) rfl, gd_in (List.mem_append_right _ (List.mem_of_getElem? (i := 760) rfl)) rfl, by decide, by decide, by decide⟩
set_option maxRecDepth 20000 in
theorem mw_X4_171 : VW RX4 171 RX4 yX4_hit cX4_hit 3 none 2 := ⟨gd_in (List.mem_append_right _ (List.mem_of_getElem? (i := 697) rfl)) rfl, gd_in (List.mem_append_right _ (List.mem_of_getElem? (i := 699) rfl)) rfl, gd_in (List.mem_append_left _ (List.mem_of_getElem? (i := 7) rfl)) rfl, gd_in (List.mem_append_right _ (List.mem_of_getElem? (i := 6) rfl)) rfl, gd_in (List.mem_append_right _ (List.mem_of_getElem? (i := 700) rfl)) rfl, by decide, by decide, by decide⟩
set_option maxRecDepth 20000 in
theorem mw_X4_187 : VW RX4 187 RX4 yX4_serveOne cX4_serveOne 5 none 1 := ⟨gd_in (List.mem_append_right _ (List.mem_of_getElem? (i := 693) rfl)) rfl, gd_in (List.mem_append_right _ (List.mem_of_getElem? (i := 695) rfl)) rfl, gd_in (List.mem_append_left _ (List.mem_of_getElem? (i := 6) rfl)) rfl, gd_in (List.mem_append_right _ (List.mem_of_getElem? (i := 6) rfl)) rfl, gd_in (List.mem_append_right _ (List.mem_of_getElem? (i := 696) rfl)) rfl, by decide, by decide, by decide⟩
set_option maxRecDepth 20000 in
theorem mw_X4_184 : VW RX4 184 RX4 yX4_begin cX4_begin 4 none 2 := ⟨gd_in (List.mem_append_right _ (List.mem_of_getElem? (i := 689) rfl)) rfl, gd_in (List.mem_append_right _ (List.mem_of_getElem? (i := 691) rfl)) rfl, gd_in (List.mem_append_left _ (List.mem_of_getElem? (i := 5) rfl)) rfl, gd_in (List.mem_append_right _ (List.mem_of_getElem? (i := 6) rfl)) rfl, gd_in (List.mem_append_right _ (List.mem_of_getElem? (i := 692) rfl)) rfl, by decide, by decide, by decide⟩
set_option maxRecDepth 20000 in
theorem mf_X4_190 : Cond.fieldLink RX4 190 (TX4 4).1 (TX4 4).2.1 (TX4 4).2.2.1 ∈ lw_gd := gd_in (List.mem_append_right _ (List.mem_of_getElem? (i := 534) rfl)) rfl
set_option maxRecDepth 20000 in
theorem mf_X4_193 : Cond.fieldLink RX4 193 (TX4 5).1 (TX4 5).2.1 (TX4 5).2.2.1 ∈ lw_gd := gd_in (List.mem_append_right _ (List.mem_of_getElem? (i := 535) rfl)) rfl
set_option maxRecDepth 20000 in
theorem mf_X4_16 : Cond.fieldLink RX4 16 (TX4 6).1 (TX4 6).2.1 (TX4 6).2.2.1 ∈ lw_gd := gd_in (List.mem_append_right _ (List.mem_of_getElem? (i := 536) rfl)) rfl
set_option maxRecDepth 20000 in
theorem mf_X4_19 : Cond.fieldLink RX4 19 (TX4 7).1 (TX4 7).2.1 (TX4 7).2.2.1 ∈ lw_gd := gd_in (List.mem_append_right _ (List.mem_of_getElem? (i := 537) rfl)) rfl
set_option maxRecDepth 20000 in
theorem mw_X4_196 : VW RX4 196 RX4 yX4_isOfParts cX4_isOfParts 1 (some .boolean) 0 := ⟨gd_in (List.mem_append_right _ (List.mem_of_getElem? (i := 782) rfl)) rfl, gd_in (List.mem_append_right _ (List.mem_of_getElem? (i := 784) rfl)) rfl, gd_in (List.mem_append_left _ (List.mem_of_getElem? (i := 24) rfl)) rfl, gd_in (List.mem_append_right _ (List.mem_of_getElem? (i := 6) rfl)) rfl, gd_in (List.mem_append_right _ (List.mem_of_getElem? (i := 785) rfl)) rfl, by decide, by decide, by decide⟩
set_option maxRecDepth 20000 in
theorem mc_X4_202 : Cond.constant RX4 202 (-2147483648) ∈ lw_gd := gd_in (List.mem_append_right _ (List.mem_of_getElem? (i := 777) rfl)) rfl
set_option maxRecDepth 20000 in
theorem mw_X4_203 : VW RX4 203 RX4 yX4_isOfWay cX4_isOfWay 2 (some .boolean) 1 := ⟨gd_in (List.mem_append_right _ (List.mem_of_getElem? (i := 778) rfl)) rfl, gd_in (List.mem_append_right _ (List.mem_of_getElem? (i := 780) rfl)) rfl, gd_in (List.mem_append_left _ (List.mem_of_getElem? (i := 23) rfl)) rfl, gd_in (List.mem_append_right _ (List.mem_of_getElem? (i := 6) rfl)) rfl, gd_in (List.mem_append_right _ (List.mem_of_getElem? (i := 781) rfl)) rfl, by decide, by decide, by decide⟩
set_option maxRecDepth 20000 in
theorem mw_X4_207 : VW RX4 207 RX4 yX4_serveTo cX4_serveTo 5 none 3 := ⟨gd_in (List.mem_append_right _ (List.mem_of_getElem? (i := 787) rfl)) rfl, gd_in (List.mem_append_right _ (List.mem_of_getElem? (i := 789) rfl)) rfl, gd_in (List.mem_append_left _ (List.mem_of_getElem? (i := 25) rfl)) rfl, gd_in (List.mem_append_right _ (List.mem_of_getElem? (i := 6) rfl)) rfl, gd_in (List.mem_append_right _ (List.mem_of_getElem? (i := 790) rfl)) rfl, by decide, by decide, by decide⟩
set_option maxRecDepth 20000 in
theorem mc_X4_206 : Cond.constant RX4 206 (-2147483647) ∈ lw_gd := gd_in (List.mem_append_right _ (List.mem_of_getElem? (i := 786) rfl)) rfl
set_option maxRecDepth 20000 in
theorem mw_X4_210 : VW RX4 210 RX4 yX4_missesOf cX4_missesOf 5 (some .int) 2 := ⟨gd_in (List.mem_append_right _ (List.mem_of_getElem? (i := 799) rfl)) rfl, gd_in (List.mem_append_right _ (List.mem_of_getElem? (i := 801) rfl)) rfl, gd_in (List.mem_append_left _ (List.mem_of_getElem? (i := 26) rfl)) rfl, gd_in (List.mem_append_right _ (List.mem_of_getElem? (i := 6) rfl)) rfl, gd_in (List.mem_append_right _ (List.mem_of_getElem? (i := 802) rfl)) rfl, by decide, by decide, by decide⟩
set_option maxRecDepth 20000 in
theorem mc_X4_213 : Cond.constantFloat RX4 213 (1176256512) ∈ lw_gd := gd_in (List.mem_append_right _ (List.mem_of_getElem? (i := 807) rfl)) rfl
set_option maxRecDepth 20000 in
theorem mf_X4_60 : Cond.fieldLink RX4 60 (TX4 30).1 (TX4 30).2.1 (TX4 30).2.2.1 ∈ lw_gd := gd_in (List.mem_append_right _ (List.mem_of_getElem? (i := 560) rfl)) rfl
set_option maxRecDepth 20000 in
theorem mw_X4_217 : VW RX4 217 RX4 yX4_behind cX4_behind 6 (some .int) 4 := ⟨gd_in (List.mem_append_right _ (List.mem_of_getElem? (i := 824) rfl)) rfl, gd_in (List.mem_append_right _ (List.mem_of_getElem? (i := 826) rfl)) rfl, gd_in (List.mem_append_left _ (List.mem_of_getElem? (i := 30) rfl)) rfl, gd_in (List.mem_append_right _ (List.mem_of_getElem? (i := 6) rfl)) rfl, gd_in (List.mem_append_right _ (List.mem_of_getElem? (i := 827) rfl)) rfl, by decide, by decide, by decide⟩
set_option maxRecDepth 20000 in
theorem mf_X4_56 : Cond.fieldLink RX4 56 (TX4 29).1 (TX4 29).2.1 (TX4 29).2.2.1 ∈ lw_gd := gd_in (List.mem_append_right _ (List.mem_of_getElem? (i := 559) rfl)) rfl
set_option maxRecDepth 20000 in
theorem mw_X4_214 : VW RX4 214 RX4 yX4_sizeOf cX4_sizeOf 4 (some .int) 1 := ⟨gd_in (List.mem_append_right _ (List.mem_of_getElem? (i := 816) rfl)) rfl, gd_in (List.mem_append_right _ (List.mem_of_getElem? (i := 818) rfl)) rfl, gd_in (List.mem_append_left _ (List.mem_of_getElem? (i := 28) rfl)) rfl, gd_in (List.mem_append_right _ (List.mem_of_getElem? (i := 6) rfl)) rfl, gd_in (List.mem_append_right _ (List.mem_of_getElem? (i := 819) rfl)) rfl, by decide, by decide, by decide⟩
set_option maxRecDepth 20000 in
theorem mc_X4_221 : Cond.constant RX4 221 (2147483647) ∈ lw_gd := gd_in (List.mem_append_right _ (List.mem_of_getElem? (i := 828) rfl)) rfl
set_option maxRecDepth 20000 in
theorem mf_X4_222 : Cond.fieldLink RX4 222 (TX4 31).1 (TX4 31).2.1 (TX4 31).2.2.1 ∈ lw_gd := gd_in (List.mem_append_right _ (List.mem_of_getElem? (i := 561) rfl)) rfl
set_option maxRecDepth 20000 in
theorem mw_X4_225 : VW RX4 225 RX4 yX4_leastFor cX4_leastFor 8 (some .int) 3 := ⟨gd_in (List.mem_append_right _ (List.mem_of_getElem? (i := 820) rfl)) rfl, gd_in (List.mem_append_right _ (List.mem_of_getElem? (i := 822) rfl)) rfl, gd_in (List.mem_append_left _ (List.mem_of_getElem? (i := 29) rfl)) rfl, gd_in (List.mem_append_right _ (List.mem_of_getElem? (i := 6) rfl)) rfl, gd_in (List.mem_append_right _ (List.mem_of_getElem? (i := 823) rfl)) rfl, by decide, by decide, by decide⟩
set_option maxRecDepth 20000 in
theorem mw_X4_229 : VW RX4 229 RX4 yX4_findLeast cX4_findLeast 5 (some .boolean) 1 := ⟨gd_in (List.mem_append_right _ (List.mem_of_getElem? (i := 812) rfl)) rfl, gd_in (List.mem_append_right _ (List.mem_of_getElem? (i := 814) rfl)) rfl, gd_in (List.mem_append_left _ (List.mem_of_getElem? (i := 27) rfl)) rfl, gd_in (List.mem_append_right _ (List.mem_of_getElem? (i := 6) rfl)) rfl, gd_in (List.mem_append_right _ (List.mem_of_getElem? (i := 815) rfl)) rfl, by decide, by decide, by decide⟩
set_option maxRecDepth 20000 in
theorem mw_X4_232 : VW RX4 232 RX4 yX4_thingAt cX4_thingAt 4 (some .int) 1 := ⟨gd_in (List.mem_append_right _ (List.mem_of_getElem? (i := 833) rfl)) rfl, gd_in (List.mem_append_right _ (List.mem_of_getElem? (i := 835) rfl)) rfl, gd_in (List.mem_append_left _ (List.mem_of_getElem? (i := 31) rfl)) rfl, gd_in (List.mem_append_right _ (List.mem_of_getElem? (i := 6) rfl)) rfl, gd_in (List.mem_append_right _ (List.mem_of_getElem? (i := 836) rfl)) rfl, by decide, by decide, by decide⟩
set_option maxRecDepth 20000 in
theorem mf_X4_63 : Cond.fieldLink RX4 63 (TX4 32).1 (TX4 32).2.1 (TX4 32).2.2.1 ∈ lw_gd := gd_in (List.mem_append_right _ (List.mem_of_getElem? (i := 562) rfl)) rfl
set_option maxRecDepth 20000 in
theorem mw_X4_235 : VW RX4 235 RX4 yX4_phaseOf cX4_phaseOf 7 (some .int) 2 := ⟨gd_in (List.mem_append_right _ (List.mem_of_getElem? (i := 841) rfl)) rfl, gd_in (List.mem_append_right _ (List.mem_of_getElem? (i := 843) rfl)) rfl, gd_in (List.mem_append_left _ (List.mem_of_getElem? (i := 32) rfl)) rfl, gd_in (List.mem_append_right _ (List.mem_of_getElem? (i := 6) rfl)) rfl, gd_in (List.mem_append_right _ (List.mem_of_getElem? (i := 844) rfl)) rfl, by decide, by decide, by decide⟩
set_option maxRecDepth 20000 in
theorem mw_X4_238 : VW RX4 238 RX4 yX4_distanceOf cX4_distanceOf 7 (some .int) 1 := ⟨gd_in (List.mem_append_right _ (List.mem_of_getElem? (i := 853) rfl)) rfl, gd_in (List.mem_append_right _ (List.mem_of_getElem? (i := 855) rfl)) rfl, gd_in (List.mem_append_left _ (List.mem_of_getElem? (i := 33) rfl)) rfl, gd_in (List.mem_append_right _ (List.mem_of_getElem? (i := 6) rfl)) rfl, gd_in (List.mem_append_right _ (List.mem_of_getElem? (i := 856) rfl)) rfl, by decide, by decide, by decide⟩
set_option maxRecDepth 20000 in
theorem mf_X4_22 : Cond.fieldLink RX4 22 (TX4 8).1 (TX4 8).2.1 (TX4 8).2.2.1 ∈ lw_gd := gd_in (List.mem_append_right _ (List.mem_of_getElem? (i := 538) rfl)) rfl
set_option maxRecDepth 20000 in
theorem mf_X4_66 : Cond.fieldLink RX4 66 (TX4 33).1 (TX4 33).2.1 (TX4 33).2.2.1 ∈ lw_gd := gd_in (List.mem_append_right _ (List.mem_of_getElem? (i := 563) rfl)) rfl
set_option maxRecDepth 20000 in
theorem mw_copy : Cond.methodLink RX3 153 arraycopyName ∈ lw_gd ∧ Cond.native arraycopyName ∈ lw_gd ∧ Cond.static arraycopyName ∈ lw_gd ∧ Cond.initialized "java/lang/System" ∈ lw_gd := ⟨gd_in (List.mem_append_right _ (List.mem_of_getElem? (i := 504) rfl)) rfl, gd_in (List.mem_append_right _ (List.mem_of_getElem? (i := 506) rfl)) rfl, gd_in (List.mem_append_right _ (List.mem_of_getElem? (i := 505) rfl)) rfl, gd_in (List.mem_append_right _ (List.mem_of_getElem? (i := 9) rfl)) rfl⟩
