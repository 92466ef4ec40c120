/-! the law -/
abbrev YJ : Type := St × St × St × St × St
theorem lw_0  {M : St} {oJ : Option (Int × YJ)} {oM : St → Option (Int × St)} {K : YJ × St → Option Unit}  (h : CA oJ (oM M)) (hK : ∀ Y' M', Rel Y' M' → K (Y', M') = some ()) : (cls oJ (fun u => (u, M)) fun r1 Y1 => cls (oM Y1.2) (fun u => (Y1.1, u)) fun r2 Y2 => if wr r1 = wr r2 then K Y2 else none) = some () := by
  obtain ⟨a, Y', M', e1, e2, e3⟩ := h
  rw [e1, cls_s, show oM ((Y', M) : YJ × St).2 = some (a, M') from e2, cls_s, if_pos rfl]
  exact hK Y' M' e3
theorem lw_1 {L : Nat} {i1 : Int} {M : St} {oJ : Option (Int × YJ)} {oM : St → Option (Int × St)} {K : YJ × St → Option Unit} (b1 : 0 ≤ i1 ∧ i1 < (L : Int)) (h : CA oJ (oM M)) (hK : ∀ Y' M', Rel Y' M' → K (Y', M') = some ()) : bd i1 L (cls oJ (fun u => (u, M)) fun r1 Y1 => bd i1 L (cls (oM Y1.2) (fun u => (Y1.1, u)) fun r2 Y2 => if wr r1 = wr r2 then K Y2 else none)) = some () := by
  obtain ⟨a, Y', M', e1, e2, e3⟩ := h
  rw [bd_pos b1, e1, cls_s, bd_pos b1, show oM ((Y', M) : YJ × St).2 = some (a, M') from e2, cls_s, if_pos rfl]
  exact hK Y' M' e3
theorem lw_2 {L : Nat} {i1 : Int} {i2 : Int} {M : St} {oJ : Option (Int × YJ)} {oM : St → Option (Int × St)} {K : YJ × St → Option Unit} (b1 : 0 ≤ i1 ∧ i1 < (L : Int)) (b2 : 0 ≤ i2 ∧ i2 < (L : Int)) (h : CA oJ (oM M)) (hK : ∀ Y' M', Rel Y' M' → K (Y', M') = some ()) : bd i1 L (bd i2 L (cls oJ (fun u => (u, M)) fun r1 Y1 => bd i1 L (bd i2 L (cls (oM Y1.2) (fun u => (Y1.1, u)) fun r2 Y2 => if wr r1 = wr r2 then K Y2 else none)))) = some () := by
  obtain ⟨a, Y', M', e1, e2, e3⟩ := h
  rw [bd_pos b1, bd_pos b2, e1, cls_s, bd_pos b1, bd_pos b2, show oM ((Y', M) : YJ × St).2 = some (a, M') from e2, cls_s, if_pos rfl]
  exact hK Y' M' e3
theorem lw_3 {L : Nat} {i1 : Int} {i2 : Int} {i3 : Int} {M : St} {oJ : Option (Int × YJ)} {oM : St → Option (Int × St)} {K : YJ × St → Option Unit} (b1 : 0 ≤ i1 ∧ i1 < (L : Int)) (b2 : 0 ≤ i2 ∧ i2 < (L : Int)) (b3 : 0 ≤ i3 ∧ i3 < (L : Int)) (h : CA oJ (oM M)) (hK : ∀ Y' M', Rel Y' M' → K (Y', M') = some ()) : bd i1 L (bd i2 L (bd i3 L (cls oJ (fun u => (u, M)) fun r1 Y1 => bd i1 L (bd i2 L (bd i3 L (cls (oM Y1.2) (fun u => (Y1.1, u)) fun r2 Y2 => if wr r1 = wr r2 then K Y2 else none)))))) = some () := by
  obtain ⟨a, Y', M', e1, e2, e3⟩ := h
  rw [bd_pos b1, bd_pos b2, bd_pos b3, e1, cls_s, bd_pos b1, bd_pos b2, bd_pos b3, show oM ((Y', M) : YJ × St).2 = some (a, M') from e2, cls_s, if_pos rfl]
  exact hK Y' M' e3
theorem lw_5 {L : Nat} {i1 : Int} {i2 : Int} {i3 : Int} {i4 : Int} {i5 : Int} {M : St} {oJ : Option (Int × YJ)} {oM : St → Option (Int × St)} {K : YJ × St → Option Unit} (b1 : 0 ≤ i1 ∧ i1 < (L : Int)) (b2 : 0 ≤ i2 ∧ i2 < (L : Int)) (b3 : 0 ≤ i3 ∧ i3 < (L : Int)) (b4 : 0 ≤ i4 ∧ i4 < (L : Int)) (b5 : 0 ≤ i5 ∧ i5 < (L : Int)) (h : CA oJ (oM M)) (hK : ∀ Y' M', Rel Y' M' → K (Y', M') = some ()) : bd i1 L (bd i2 L (bd i3 L (bd i4 L (bd i5 L (cls oJ (fun u => (u, M)) fun r1 Y1 => bd i1 L (bd i2 L (bd i3 L (bd i4 L (bd i5 L (cls (oM Y1.2) (fun u => (Y1.1, u)) fun r2 Y2 => if wr r1 = wr r2 then K Y2 else none)))))))))) = some () := by
  obtain ⟨a, Y', M', e1, e2, e3⟩ := h
  rw [bd_pos b1, bd_pos b2, bd_pos b3, bd_pos b4, bd_pos b5, e1, cls_s, bd_pos b1, bd_pos b2, bd_pos b3, bd_pos b4, bd_pos b5, show oM ((Y', M) : YJ × St).2 = some (a, M') from e2, cls_s, if_pos rfl]
  exact hK Y' M' e3
theorem rel_0 : Rel J0 M0 := by
  refine ⟨0, fun _ => 0, fun _ => 1, ⟨rfl, rfl, by omega, fun i hi => absurd hi (Nat.not_lt_zero _), fun t ht => ⟨Nat.le_refl _, (by decide : 1 ≤ 1000), ?_, ?_⟩⟩, ⟨0, by omega, rfl, rfl, fun i hi => absurd hi (Nat.not_lt_zero _)⟩, Or.inl ⟨rfl, rfl⟩, Or.inl rfl⟩
  · show (if t < 16 then (1 : Int) else 0) = _
    rw [if_pos ht]
    rfl
  · show (if t < 16 then (1 : Int) else 0) = _
    rw [if_pos ht]
    rfl
theorem law_loop {L : Nat} {xs : Nat → Int} (hL : L ≤ 3072) (hxs : ∀ j, -2147483648 ≤ xs j ∧ xs j < 2147483648) : ∀ (d s f : Nat) (Y : YJ) (M : St), Rel Y M → L ≤ 6 * (s + d) → 6 * s ≤ 3072 → d < f → fL_law_l18 L xs f ((6 * s : Nat) : Int) (Y, M) = some () := by
  have wx : ∀ j, wr (xs j) = xs j := fun j => wr_id (hxs j)
  intro d
  induction d with
  | zero =>
    intro s f Y M h hs h6 hf
    obtain ⟨f', rfl⟩ : ∃ f', f = f' + 1 := ⟨f - 1, by omega⟩
    have e : wr ((L : Int) - 6) < wr ((6 * s : Nat) : Int) := by rw [wr_id (by omega), wr_nat (by omega)]; omega
    unfold fL_law_l18
    rw [if_pos e]
  | succ d ih =>
    intro s f Y M h hs h6 hf
    obtain ⟨f', rfl⟩ : ∃ f', f = f' + 1 := ⟨f - 1, by omega⟩
    by_cases q : L < 6 * s + 6
    · have e : wr ((L : Int) - 6) < wr ((6 * s : Nat) : Int) := by rw [wr_id (by omega), wr_nat (by omega)]; omega
      unfold fL_law_l18
      rw [if_pos e]
    · have e : ¬ wr ((L : Int) - 6) < wr ((6 * s : Nat) : Int) := by rw [wr_id (by omega), wr_nat (by omega)]; omega
      have b0 : 0 ≤ ((6 * s : Nat) : Int) ∧ ((6 * s : Nat) : Int) < (L : Int) := by omega
      have b1 : 0 ≤ ((6 * s : Nat) : Int) + 1 ∧ ((6 * s : Nat) : Int) + 1 < (L : Int) := by omega
      have b2 : 0 ≤ ((6 * s : Nat) : Int) + 2 ∧ ((6 * s : Nat) : Int) + 2 < (L : Int) := by omega
      have b3 : 0 ≤ ((6 * s : Nat) : Int) + 3 ∧ ((6 * s : Nat) : Int) + 3 < (L : Int) := by omega
      have b4 : 0 ≤ ((6 * s : Nat) : Int) + 4 ∧ ((6 * s : Nat) : Int) + 4 < (L : Int) := by omega
      have b5 : 0 ≤ ((6 * s : Nat) : Int) + 5 ∧ ((6 * s : Nat) : Int) + 5 < (L : Int) := by omega
      have hK : ∀ Y' M', Rel Y' M' → fL_law_j907 L xs (fL_law_l18 L xs f') ((6 * s : Nat) : Int) (Y', M') = some () := by
        intro Y' M' h'
        unfold fL_law_j907
        rw [nm_q, show ((6 * s : Nat) : Int) + 6 = ((6 * (s + 1) : Nat) : Int) by omega]
        exact ih (s + 1) f' Y' M' h' (by omega) (by omega) (by omega)
      obtain ⟨J, R, U, V, T⟩ := Y
      unfold fL_law_l18
      rw [if_neg e, bd_pos b0]
      generalize wr (andI (xs (Int.toNat ((6 * s : Nat) : Int))) 31) = w
      by_cases c0 : w = 0
      · rw [if_pos c0]
        exact lw_2 (oM := fun N => fX4_price N (xs (Int.toNat (((6 * s : Nat) : Int) + 1))) (xs (Int.toNat (((6 * s : Nat) : Int) + 2)))) b1 b2 (call_price h (wx _) (wx _)) hK
      rw [if_neg c0]
      by_cases c1 : w = 1
      · rw [if_pos c1]
        exact lw_5 (oM := fun N => fX4_ask N (xs (Int.toNat (((6 * s : Nat) : Int) + 1))) (xs (Int.toNat (((6 * s : Nat) : Int) + 2))) (xs (Int.toNat (((6 * s : Nat) : Int) + 3))) (xs (Int.toNat (((6 * s : Nat) : Int) + 4))) (xs (Int.toNat (((6 * s : Nat) : Int) + 5)))) b1 b2 b3 b4 b5 (call_ask h (wx _) (wx _) (wx _) (wx _) (wx _)) hK
      rw [if_neg c1]
      by_cases c2 : w = 2
      · rw [if_pos c2]
        exact lw_3 (oM := fun N => fX4_draw N (xs (Int.toNat (((6 * s : Nat) : Int) + 1))) (xs (Int.toNat (((6 * s : Nat) : Int) + 2))) (xs (Int.toNat (((6 * s : Nat) : Int) + 3)))) b1 b2 b3 (call_draw h (wx _) (wx _)) hK
      rw [if_neg c2]
      by_cases c3 : w = 3
      · rw [if_pos c3]
        exact lw_2 (oM := fun N => fX4_change N (xs (Int.toNat (((6 * s : Nat) : Int) + 1))) (xs (Int.toNat (((6 * s : Nat) : Int) + 2)))) b1 b2 (call_change h (wx _) (wx _)) hK
      rw [if_neg c3]
      by_cases c4 : w = 4
      · rw [if_pos c4]
        exact lw_1 (oM := fun N => fX4_cut N (xs (Int.toNat (((6 * s : Nat) : Int) + 1)))) b1 (call_cut h (wx _)) hK
      rw [if_neg c4]
      by_cases c5 : w = 5
      · rw [if_pos c5]
        exact lw_1 (oM := fun N => fX4_asked N (xs (Int.toNat (((6 * s : Nat) : Int) + 1)))) b1 (call_asked h (wx _)) hK
      rw [if_neg c5]
      by_cases c6 : w = 6
      · rw [if_pos c6]
        exact lw_1 (oM := fun N => fX4_many N (xs (Int.toNat (((6 * s : Nat) : Int) + 1)))) b1 (call_many h (wx _)) hK
      rw [if_neg c6]
      by_cases c7 : w = 7
      · rw [if_pos c7]
        exact lw_2 (oM := fun N => fX4_serve N (xs (Int.toNat (((6 * s : Nat) : Int) + 1))) (xs (Int.toNat (((6 * s : Nat) : Int) + 2)))) b1 b2 (call_serve h (wx _) (wx _)) hK
      rw [if_neg c7]
      by_cases c8 : w = 8
      · rw [if_pos c8]
        exact lw_0 (oM := fun N => fX4_paid N )  (call_paid h ) hK
      rw [if_neg c8]
      by_cases c9 : w = 9
      · rw [if_pos c9]
        exact lw_1 (oM := fun N => fX4_hit_ N (xs (Int.toNat (((6 * s : Nat) : Int) + 1)))) b1 (call_hit h (wx _)) hK
      rw [if_neg c9]
      by_cases c10 : w = 10
      · rw [if_pos c10]
        exact lw_1 (oM := fun N => fX4_gone N (xs (Int.toNat (((6 * s : Nat) : Int) + 1)))) b1 (call_gone h (wx _)) hK
      rw [if_neg c10]
      by_cases c11 : w = 11
      · rw [if_pos c11]
        exact lw_3 (oM := fun N => fX4_look N (xs (Int.toNat (((6 * s : Nat) : Int) + 1))) (xs (Int.toNat (((6 * s : Nat) : Int) + 2))) (xs (Int.toNat (((6 * s : Nat) : Int) + 3)))) b1 b2 b3 (call_look h (wx _) (wx _) (wx _)) hK
      rw [if_neg c11]
      by_cases c12 : w = 12
      · rw [if_pos c12]
        exact lw_2 (oM := fun N => fX4_level N (xs (Int.toNat (((6 * s : Nat) : Int) + 1))) (xs (Int.toNat (((6 * s : Nat) : Int) + 2)))) b1 b2 (call_level h (wx _) (wx _)) hK
      rw [if_neg c12]
      by_cases c13 : w = 13
      · rw [if_pos c13]
        exact lw_1 (oM := fun N => fX4_fewest N (xs (Int.toNat (((6 * s : Nat) : Int) + 1)))) b1 (call_fewest h (wx _)) hK
      rw [if_neg c13]
      by_cases c14 : w = 14
      · rw [if_pos c14]
        exact lw_0 (oM := fun N => fX4_share N )  (call_share h ) hK
      rw [if_neg c14]
      by_cases c15 : w = 15
      · rw [if_pos c15]
        exact lw_1 (oM := fun N => fX4_least_ N (xs (Int.toNat (((6 * s : Nat) : Int) + 1)))) b1 (call_least h (wx _)) hK
      rw [if_neg c15]
      by_cases c16 : w = 16
      · rw [if_pos c16]
        exact lw_2 (oM := fun N => fX4_goes N (xs (Int.toNat (((6 * s : Nat) : Int) + 1))) (xs (Int.toNat (((6 * s : Nat) : Int) + 2)))) b1 b2 (call_goes h (wx _) (wx _)) hK
      rw [if_neg c16]
      by_cases c17 : w = 17
      · rw [if_pos c17]
        exact lw_1 (oM := fun N => fX4_phases N (xs (Int.toNat (((6 * s : Nat) : Int) + 1)))) b1 (call_phases h (wx _)) hK
      rw [if_neg c17]
      by_cases c18 : w = 18
      · rw [if_pos c18]
        exact lw_2 (oM := fun N => fX4_phase N (xs (Int.toNat (((6 * s : Nat) : Int) + 1))) (xs (Int.toNat (((6 * s : Nat) : Int) + 2)))) b1 b2 (call_phase h (wx _) (wx _)) hK
      rw [if_neg c18]
      by_cases c19 : w = 19
      · rw [if_pos c19]
        exact lw_1 (oM := fun N => fX4_distance N (xs (Int.toNat (((6 * s : Nat) : Int) + 1)))) b1 (call_distance h (wx _)) hK
      rw [if_neg c19]
      by_cases c20 : w = 20
      · rw [if_pos c20]
        exact lw_1 (oM := fun N => fX4_curve N (xs (Int.toNat (((6 * s : Nat) : Int) + 1)))) b1 (call_curve h (wx _)) hK
      rw [if_neg c20]
      by_cases c21 : w = 21
      · rw [if_pos c21]
        exact lw_3 (oM := fun N => fX4_hard N (xs (Int.toNat (((6 * s : Nat) : Int) + 1))) (xs (Int.toNat (((6 * s : Nat) : Int) + 2))) (xs (Int.toNat (((6 * s : Nat) : Int) + 3)))) b1 b2 b3 (call_hard h (wx _) (wx _) (wx _)) hK
      rw [if_neg c21]
      by_cases c22 : w = 22
      · rw [if_pos c22]
        exact lw_1 (oM := fun N => fX4_claim N (xs (Int.toNat (((6 * s : Nat) : Int) + 1)))) b1 (call_claim h (wx _)) hK
      rw [if_neg c22]
      by_cases c23 : w = 23
      · rw [if_pos c23]
        exact lw_0 (oM := fun N => fX4_copy N )  (call_copy h ) hK
      rw [if_neg c23]
      by_cases c24 : w = 24
      · rw [if_pos c24]
        exact lw_0 (oM := fun N => fX4_unclaim N )  (call_unclaim h ) hK
      rw [if_neg c24]
      by_cases c25 : w = 25
      · rw [if_pos c25]
        exact lw_1 (oM := fun N => fX4_cost N (xs (Int.toNat (((6 * s : Nat) : Int) + 1)))) b1 (call_cost h (wx _)) hK
      rw [if_neg c25]
      by_cases c26 : w = 26
      · rw [if_pos c26]
        exact lw_2 (oM := fun N => fX4_check N (xs (Int.toNat (((6 * s : Nat) : Int) + 1))) (xs (Int.toNat (((6 * s : Nat) : Int) + 2)))) b1 b2 (call_check h (wx _) (wx _)) hK
      rw [if_neg c26]
      exact hK _ _ h
