/-! what goes, leaves: all ways -/
def hN (w k : Nat) (h : Int) : Int := if w = 3 then (if h + 1 < (k : Int) then h + 1 else 0) else h
def GO (S R M : St) (n : Nat) (r p : Nat → Nat) (w k i : Nat) : Prop := ∃ (g spot : Nat) (S1 S2 M1 : St), g < 16 ∧ spot < k ∧ fX2_chooseGoing (S, R) = some ((g : Int), (S1, R)) ∧ S1.2 7 g = (spot : Int) ∧ fX2_takeAway (S1, R) (g : Int) = some (S2, R) ∧ fX4_chosen M (i : Int) = some ((g : Int), M1) ∧ M1.2 18 g = (spot : Int) ∧ M1.1 11 = (w : Int) ∧ M1.1 12 = (k : Int) ∧ (0 ≤ M1.1 24 ∧ M1.1 24 < (k : Int)) ∧ SH S2 R (lvM M1 g (hN w k (M1.1 24)) (if w = 7 then M1.2 21 g else M1.1 26)) n r p w k i (k - 1) (fun q => q ≠ spot) ∧ (∀ t, M.2 13 t = 0 → (lvM M1 g (hN w k (M1.1 24)) (if w = 7 then M1.2 21 g else M1.1 26)).2 13 t = 0) ∧ (∀ x, S.2 1 x = 0 → S2.2 1 x = 0) ∧ S2.1 17 = S.1 17 ∧ M1.1 27 = M.1 27 ∧ FR M M1
theorem go_n {S R M : St} {n : Nat} {r p : Nat → Nat} {w k i : Nat} (hb : ¬ (w = 5 ∨ w = 6)) (hc : CH S R M n r p w k i) : GO S R M n r p w k i := by
  obtain ⟨g, Sx, M1, h', hg, e1, e2, h, hgl, hmark, hh, ⟨q3, q3'⟩, f13, f1, f17, f27, hF⟩ := hc
  obtain ⟨hR, ⟨h8, hk1, hk8, hin, hlyk⟩, hsc, -, hC, hT, hP, hN1⟩ := id h
  obtain ⟨c1, c2, c3, c4, c5, c6, c7, c8, c9, c10, c11, c12, c13, c14, c15, c16, c17, c18, c19⟩ := hsc
  have hg0 := hT g hg
  have hg1 := hg0.2.2.2.1 hgl
  have ehN : h' = hN w k (M1.1 24) := by
    unfold hN
    by_cases q : w = 3
    · rw [if_pos q]; exact q3 q
    · rw [if_neg q]; exact q3' q
  have elev : (if w = 7 then Sx.2 6 g else Sx.1 16) = (if w = 7 then M1.2 21 g else M1.1 26) := by
    rw [c15, hg1.2.2.2.2.2.2.1]
  obtain ⟨spot, s1, s2, s3, s4⟩ := rem_rel (h' := h') (lev' := if w = 7 then M1.2 21 g else M1.1 26) h hb hg hgl hmark hh (by split <;> omega)
  have ht := c_takeN (S := setI Sx 14 h') (R := R) (w := w) hg (by simp only [sI1, Nat.reduceEqDiff, ↓reduceIte]; exact c1) h8 hb (by simp only [sI2]; exact (TH_r hg0).1.2)
  have hgp : Sx.2 1 g ≠ 0 := by have := hg0.1; omega
  simp only [sI2, sI1, Nat.reduceEqDiff, ↓reduceIte, elev] at ht
  unfold GO
  rw [ehN] at s4 ht e1
  refine ⟨g, spot, _, _, M1, hg, s1, e1, s2, ht, e2, s3, c2, c4, ⟨by omega, by omega⟩, s4, fun t z => ?_, fun x z => ?_, f17, f27, hF⟩
  · rw [lvM_2, f13 t, z]; simp
  · have : x ≠ g := fun y => hgp (by rw [f1, ← y]; exact z)
    rw [mvS_n _ _ _ _ _ this (by decide)]
    simp only [sI2, f1]
    exact z
theorem go_b2 {S R M : St} {n : Nat} {r p : Nat → Nat} {w k i : Nat} {g P : Nat} (h : SH S R M n r p w k i k (fun q => q < k)) (hb : w = 5 ∨ w = 6) (hP : P = 1 ∨ P = 2) (hg : g < 16) (hgP : S.2 1 g = (P : Int)) (e1 : fX2_chooseGoing (S, R) = some ((g : Int), (S, R))) (e2 : fX4_chosen M (i : Int) = cls (fX4_ofTwoParts_j71 (i : Int) (if P = 1 then 1 else 0) (g : Int) M) (fun u => u) fun r102 Y101 => some (r102, Y101)) : GO S R M n r p w k i := by
  obtain ⟨hR, ⟨h8, hk1, hk8, hin, hlyk⟩, hsc, -, hC, hT, hPl, hN1⟩ := id h
  obtain ⟨c1, c2, c3, c4, c5, c6, c7, c8, c9, c10, c11, c12, c13, c14, c15, c16, c17, c18, c19⟩ := hsc
  have hg0 := hT g hg
  have hgl : M.2 13 g = 1 := by have := hg0.1; omega
  have e3 : ¬ w = 3 := by omega
  have e7 : ¬ w = 7 := by omega
  have e7' : ¬ (w : Int) = 7 := by omega
  have hbf : ∀ b : Int, b = (if P = 1 then 3 else if w = 6 then 4 else 0) → fX2_bookFor (S, R) (g : Int) = some (b, (S, R)) := fun b hb0 => by
    simp only [fX2_bookFor, fX2_bookFor_j19, fX2_bookFor_j33, c_hasBooks (S := S) (w := w) c1 h8, cls_s, if_pos hb, wl_1, bd_n hg, Int.toNat_natCast, hgP, wr_nat (show P < 2147483648 by omega), c1, wr_nat (show w < 2147483648 by omega), wl_6, hb0]
    rcases hP with q | q
    · subst q; rfl
    · subst q
      by_cases z : w = 6
      · subst z; rfl
      · rw [if_neg z, if_neg (show ¬ (w : Int) = 6 by omega)]; rfl
  have fin : ∀ (S2 M3 : St) (spot : Nat), fX2_takeAway (S, R) (g : Int) = some (S2, R) → fX4_chosen M (i : Int) = some ((g : Int), M3) → spot < k → S.2 7 g = (spot : Int) → M3.2 18 g = (spot : Int) → SH S2 R (lvM M3 g (M.1 24) (M.1 26)) n r p w k i (k - 1) (fun q => q ≠ spot) → (∀ j, M3.1 j = M.1 j) → (∀ t, M3.2 13 t = M.2 13 t) → (∀ x, S.2 1 x = 0 → S2.2 1 x = 0) → S2.1 17 = S.1 17 → FR M M3 → GO S R M n r p w k i := by
    intro S2 M3 spot t1 t2 t3 t4 t5 t6 t7 t8 t9 t10 t11
    have a1 : hN w k (M3.1 24) = M.1 24 := by unfold hN; rw [if_neg e3]; exact t7 24
    have a2 : (if w = 7 then M3.2 21 g else M3.1 26) = M.1 26 := by rw [if_neg e7]; exact t7 26
    unfold GO
    refine ⟨g, spot, S, S2, M3, hg, t3, e1, t4, t1, t2, t5, (t7 11).trans c2, (t7 12).trans c4, ?_, ?_, ?_, t9, t10, t7 27, t11⟩
    · rw [t7 24]; omega
    · rw [a1, a2]; exact t6
    · intro t z; rw [lvM_2, t8 t, z]; simp
  by_cases hbk : P = 1 ∨ w = 6
  · obtain ⟨bk, hbk3, hbk4⟩ : ∃ bk : Nat, (bk = 3 ∨ bk = 4) ∧ (bk : Int) = (if P = 1 then 3 else if w = 6 then 4 else 0) := by
      by_cases q : P = 1
      · exact ⟨3, Or.inl rfl, by rw [if_pos q]; rfl⟩
      · exact ⟨4, Or.inr rfl, by rw [if_neg q, if_pos (by omega)]; rfl⟩
    obtain ⟨S2, M3, spot, t1, t2, t3, t4, t5, t6, t7, t8, t9, t10, t11⟩ := toBook_rel (bk := bk) h hb hg hgl hbk3
    refine fin S2 M3 spot ?_ ?_ t3 t4 t5 t6 t7 t8 t9 t10 t11
    · have z1 : ¬ (bk : Int) = 0 := by omega
      simp only [fX2_takeAway, fX2_takeAway_j19, c1, wr_nat (show w < 2147483648 by omega), wl_7, if_neg e7', hbf _ hbk4, cls_s, nm, wr_nat (show bk < 2147483648 by omega), if_neg z1, bd_n (show bk < 5 by omega), Int.toNat_natCast]
      exact t1
    · rw [e2]
      simp only [fX4_ofTwoParts_j71, fX4_ofTwoParts_j114, nm, bd_n hg, Int.toNat_natCast, sA1, c2, wr_nat (show w < 2147483648 by omega), wl_6]
      by_cases q : P = 1
      · rw [if_pos q] at hbk4
        rw [hbk4] at t2
        simp only [if_pos q, wl_1, t2, clv_s, cls_s]
        rfl
      · have e6 : w = 6 := by omega
        rw [if_neg q, if_pos e6] at hbk4
        rw [hbk4] at t2
        have e6' : (w : Int) = 6 := by omega
        simp only [if_neg q, wl_0, if_pos e6', t2, clv_s, cls_s, ↓reduceIte]
  · have hP2 : P = 2 := by omega
    have e6' : ¬ (w : Int) = 6 := by omega
    obtain ⟨spot, s1, s2, s3, s4⟩ := remB_rel (M3 := setA M 19 g 0) (bk := 0) h hb hg hgl (Or.inl rfl) (fun _ => rfl) (fun a t h1 h2 => by simp [sA2, h1]) (fun t => by simp only [sA2]; grind) (fun t => by simp only [sA2]; grind)
    refine fin (mvS S g 0) (setA M 19 g 0) spot ?_ ?_ s1 s2 s3 s4 (fun _ => rfl) (fun t => by simp [sA2]) (fun x hx => ?_) rfl ⟨fun _ _ => rfl, fun a t ha => by simp only [sA2]; simp only [if_neg (show ¬ a = 19 by omega)]⟩
    · have hm : fX2_move (S, R) (g : Int) 0 = some (mvS S g 0, R) := c_move (to := 0) hg (by decide) (by omega)
      simp only [fX2_takeAway, fX2_takeAway_j19, fX2_takeAway_j52, c1, wr_nat (show w < 2147483648 by omega), wl_7, if_neg e7', hbf 0 (by rw [if_neg (by omega), if_neg (by omega)]), cls_s, nm, wl_0, ↓reduceIte, hm, clv_s]
    · rw [e2]
      simp only [fX4_ofTwoParts_j71, fX4_ofTwoParts_j114, nm, bd_n hg, Int.toNat_natCast, sA1, c2, wr_nat (show w < 2147483648 by omega), wl_6, if_neg (show ¬ P = 1 by omega), wl_0, ↓reduceIte, if_neg e6', cls_s]
    · rw [mvS_n _ _ _ _ _ (fun z => by subst z; omega) (by decide)]; exact hx
theorem go_b {S R M : St} {n : Nat} {r p : Nat → Nat} {w k i : Nat} (h : SH S R M n r p w k i k (fun q => q < k)) (hb : w = 5 ∨ w = 6) : GO S R M n r p w k i := by
  obtain ⟨hR, ⟨h8, hk1, hk8, hin, hlyk⟩, hsc, -, hC, hT, hPl, hN1⟩ := id h
  obtain ⟨c1, c2, c3, c4, c5, c6, c7, c8, c9, c10, c11, c12, c13, c14, c15, c16, c17, c18, c19⟩ := hsc
  obtain ⟨m, hm0, hm1, hm2⟩ : ∃ m : Int, (0 ≤ m ∧ m ≤ 8) ∧ fX2_chooseGoing (S, R) = (cls (fX2_partThatLoses (S, R) m) (fun u => u) fun r16 Y15 => cls (fX2_firstOf Y15 r16) (fun u => u) fun r18 Y17 => some (r18, Y17)) ∧ fX4_ofTwoParts M (i : Int) = fX4_ofTwoParts_j21 (i : Int) m M := by
    by_cases q : w = 5
    · subst q
      refine ⟨((k / 4 : Nat) : Int), by omega, ?_, ?_⟩
      · have hd : divI (S.1 10) 4 = ((k / 4 : Nat) : Int) := by rw [c3]; exact div_nat (d := 4) (by omega) (by decide) (by decide)
        simp only [fX2_chooseGoing, c1, wr_nat (show 5 < 2147483648 by decide), hd]
        rfl
      · have hd : divI (M.1 12) 4 = ((k / 4 : Nat) : Int) := by rw [c4]; exact div_nat (d := 4) (by omega) (by decide) (by decide)
        simp only [fX4_ofTwoParts, c2, wr_nat (show 5 < 2147483648 by decide), wl_5, hd]
        rfl
    · have q6 : w = 6 := by omega
      subst q6
      refine ⟨S.1 15, by omega, ?_, ?_⟩
      · simp only [fX2_chooseGoing, c1, wr_nat (show 6 < 2147483648 by decide)]
        rfl
      · simp only [fX4_ofTwoParts, c2, wr_nat (show 6 < 2147483648 by decide), wl_5, c12]
        rfl
  have hch : fX4_chosen M (i : Int) = cls (fX4_ofTwoParts M (i : Int)) (fun u => u) fun r102 Y101 => some (r102, Y101) := by
    rcases hb with q | q <;> subst q
    · simp only [fX4_chosen, fX4_chosen_j83, c2, wr_nat (show 5 < 2147483648 by decide)]; rfl
    · simp only [fX4_chosen, fX4_chosen_j83, c2, wr_nat (show 6 < 2147483648 by decide)]; rfl
  have b1 := cnt_le hC 1 (by decide) (by decide)
  have b2 := cnt_le hC 2 (by decide) (by decide)
  have w1 : wr (S.2 2 1) = S.2 2 1 := wr_id (by omega)
  have w2 : wr (S.2 2 2) = S.2 2 2 := wr_id (by omega)
  have wm : wr m = m := wr_id (by omega)
  obtain ⟨mf1, mp1⟩ := mf_b (M' := M) h hb (P := 1) (by decide) (by decide) (fun t ht => by
    have a := (hT t ht).2.1 hb
    have b := (TH_r (hT t ht)).1
    rw [a]; omega) (fun _ => rfl)
  obtain ⟨mp2, mr2⟩ := mp_2 h hb
  have mp1' : fX4_partSize M 1 = some (S.2 2 1, M) := mp1
  have mf1' : fX4_firstIn M 1 = some (aP S M 1, M) := mf1
  have bd1 : ∀ {O : Type} (o : Option O), bd 1 5 o = o := fun o => bd_n (n := 1) (m := 5) (F := o) (by decide)
  have bd2 : ∀ {O : Type} (o : Option O), bd 2 5 o = o := fun o => bd_n (n := 2) (m := 5) (F := o) (by decide)
  have t1 : Int.toNat 1 = 1 := rfl
  have t2 : Int.toNat 2 = 2 := rfl
  by_cases hp1 : m < S.2 2 1 ∨ S.2 2 2 = 0
  · obtain ⟨g, g1, g2, g3⟩ := aP_g h (P := 1) (by decide) (by omega)
    refine go_b2 h hb (P := 1) (Or.inl rfl) g1 g3 ?_ ?_
    · have hl : fX2_partThatLoses (S, R) m = some (1, (S, R)) := by
        simp only [fX2_partThatLoses, fX2_partThatLoses_j19, fX2_partThatLoses_j24, bd1, bd2, wm, w1, w2, t1, t2]
        by_cases z : m < S.2 2 1
        · rw [if_pos z]
        · rw [if_neg z, if_pos (by omega)]
      have hf := cf_b h hb (P := 1) (by decide)
      rw [g2, if_neg (by omega)] at hf
      have hf' : fX2_firstOf (S, R) 1 = some ((g : Int), (S, R)) := hf
      simp only [hm1, hl, cls_s, hf']
    · rw [hch, hm2]
      have hneg : ¬ S.2 2 1 ≤ 0 := by omega
      simp only [fX4_ofTwoParts_j21, fX4_ofTwoParts_j45, fX4_ofTwoParts_j49, fX4_ofTwoParts_j50, nm, mp1', mp2, mf1', cls_s, w1, w2, wm, if_neg hneg, wl_1, g2]
      by_cases z : m < S.2 2 1
      · simp only [if_pos z, Int.reduceEq, ↓reduceIte]
      · have z2 : S.2 2 2 = 0 := by omega
        simp only [if_neg z, if_pos z2, Int.reduceEq, ↓reduceIte]
  · obtain ⟨g, g1, g2, g3⟩ := aP_g h (P := 2) (by decide) (by omega)
    refine go_b2 h hb (P := 2) (Or.inr rfl) g1 g3 ?_ ?_
    · have hl : fX2_partThatLoses (S, R) m = some (2, (S, R)) := by
        simp only [fX2_partThatLoses, fX2_partThatLoses_j19, fX2_partThatLoses_j24, bd1, bd2, wm, w1, w2, t1, t2]
        rw [if_neg (by omega), if_neg (by omega)]
      have hf := cf_b h hb (P := 2) (by decide)
      rw [g2, if_neg (by omega)] at hf
      have hf' : fX2_firstOf (S, R) 2 = some ((g : Int), (S, R)) := hf
      simp only [hm1, hl, cls_s, hf']
    · rw [hch, hm2]
      have z1 : ¬ m < S.2 2 1 := by omega
      have z2 : ¬ S.2 2 2 = 0 := by omega
      simp only [fX4_ofTwoParts_j21, fX4_ofTwoParts_j45, fX4_ofTwoParts_j49, fX4_ofTwoParts_j50, nm, mp1', mp2, mr2, cls_s, w1, w2, wm, if_neg z1, if_neg z2, wl_0, g2, ite_self, ↓reduceIte, Nat.reduceEqDiff]
theorem go_all {S R M : St} {n : Nat} {r p : Nat → Nat} {w k i : Nat} (h : SH S R M n r p w k i k (fun q => q < k)) (hi : i < n) (hx : M.2 13 (r i) = 0) : GO S R M n r p w k i := by
  have h8 := h.2.1.1
  by_cases hb : w = 5 ∨ w = 6
  · exact go_b h hb
  · refine go_n hb ?_
    obtain q | q | q | q | q | q | q : w = 0 ∨ w = 1 ∨ w = 2 ∨ w = 3 ∨ w = 4 ∨ w = 7 ∨ w = 8 := by omega
    · subst q; exact ch_0 h
    · subst q; exact ch_1 h
    · subst q; exact ch_2 h
    · subst q; exact ch_3 h
    · subst q; exact ch_4 h
    · subst q; exact ch_7 h
    · subst q; exact ch_8 h hi hx
