/-! one asking, on both sides -/
theorem SH_occ {S R M : St} {n : Nat} {r p : Nat → Nat} {w k i ly ly' : Nat} {occ occ' : Nat → Prop} (h : SH S R M n r p w k i ly occ) (he : ly = ly') (ho : ∀ q, q < k → (occ q ↔ occ' q)) : SH S R M n r p w k i ly' occ' := by
  subst he
  obtain ⟨hR, hb, hsc, hmk, hC, hT, hP, hN⟩ := h
  refine ⟨hR, hb, hsc, hmk, hC, fun t ht => ?_, fun q hq z => hP q hq ((ho q hq).mpr z), hN⟩
  obtain ⟨a1, a2, a3, a4, a5, a6, a7, a8, a9⟩ := hT t ht
  refine ⟨a1, a2, a3, a4, fun z => ?_, a6, a7, a8, a9⟩
  obtain ⟨q, b1, b2, b3⟩ := a5 z
  exact ⟨q, b1, (ho q b1).mp b2, b3⟩
theorem SH_setM {S R M M' : St} {n : Nat} {r p : Nat → Nat} {w k i ly : Nat} {occ : Nat → Prop} (h : SH S R M n r p w k i ly occ) (h1 : ∀ j, j ≠ 27 → j ≠ 28 → M'.1 j = M.1 j) (h2 : M'.2 = M.2) : SH S R M' n r p w k i ly occ := by
  obtain ⟨hR, hb, hsc, hmk, hC, hT, hP, hN⟩ := h
  refine ⟨?_, hb, ?_, ?_, hC, fun t ht => ?_, ?_, hN⟩
  · unfold RR at hR ⊢; rw [h1 2 (by decide) (by decide), h2]; exact hR
  · unfold SC at hsc ⊢
    rw [h1 11 (by decide) (by decide), h1 12 (by decide) (by decide), h1 22 (by decide) (by decide), h1 23 (by decide) (by decide), h1 24 (by decide) (by decide), h1 25 (by decide) (by decide), h1 26 (by decide) (by decide)]; exact hsc
  · unfold MK at hmk ⊢; rw [h2]; exact hmk
  · have := hT t ht
    unfold TH at this ⊢; rw [h2]; exact this
  · unfold PL at hP ⊢; rw [h2]; exact hP
theorem SH_setS {S S' R M : St} {n : Nat} {r p : Nat → Nat} {w k i ly : Nat} {occ : Nat → Prop} (h : SH S R M n r p w k i ly occ) (h1 : ∀ j, j ≠ 17 → S'.1 j = S.1 j) (h2 : S'.2 = S.2) : SH S' R M n r p w k i ly occ := by
  obtain ⟨hR, hb, hsc, hmk, hC, hT, hP, hN⟩ := h
  refine ⟨hR, hb, ?_, ?_, ?_, fun t ht => ?_, ?_, hN⟩
  · unfold SC at hsc ⊢
    rw [h1 9 (by decide), h1 10 (by decide), h1 11 (by decide), h1 13 (by decide), h1 14 (by decide), h1 15 (by decide), h1 16 (by decide), h2]; exact hsc
  · unfold MK at hmk ⊢; rw [h1 12 (by decide)]; exact hmk
  · unfold CNT at hC ⊢; rw [h2]; exact hC
  · have := hT t ht
    unfold TH at this ⊢; rw [h2]; exact this
  · unfold PL at hP ⊢; rw [h2]; exact hP
theorem c_lying {S R : St} : fX2_lying (S, R) = some (S.2 2 1 + S.2 2 2, (S, R)) := by
  have e1 : ∀ F : Option (Int × (St × St)), bd 1 5 F = F := fun F => bd_n (n := 1) (m := 5) (F := F) (by decide)
  have e2 : ∀ F : Option (Int × (St × St)), bd 2 5 F = F := fun F => bd_n (n := 2) (m := 5) (F := F) (by decide)
  simp only [fX2_lying, e1, e2]
  rfl
theorem lvM_24 (M : St) (g : Nat) (a b l : Int) : setI (lvM M g a l) 24 b = lvM M g b l := st_ext (fun j => by simp only [sI1, lvM_1]; split <;> rfl) (fun _ _ => rfl)
theorem m_leave2 {M : St} {w g : Nat} (hg : g < 16) (hw : M.1 11 = (w : Int)) (h8 : w ≤ 8) : fX4_leave (setA (setI M 28 (g : Int)) 18 g (-1)) (g : Int) = some (lvM M g (M.1 24) (if w = 7 then M.2 21 g else M.1 26)) := by
  have e : ∀ Z : St, Z.1 24 = M.1 24 → setI Z 24 (M.1 24) = Z := fun Z hZ => by rw [← hZ]; exact setI_same Z 24
  simp only [fX4_leave, fX4_leave_j44, nm, bd_n hg, Int.toNat_natCast, sA1, sI1, sI2, sA2, hw, wr_nat (show w < 2147483648 by omega), wl_7, cb_0, Nat.reduceEqDiff, ↓reduceIte, lvM]
  by_cases h7 : w = 7
  · subst h7
    simp only [show ((7 : Nat) : Int) = 7 from rfl, ↓reduceIte]
    refine congrArg some (Eq.symm (e _ ?_))
    rfl
  · have e7 : ¬ (w : Int) = 7 := by omega
    simp only [if_neg e7, if_neg h7]
    refine congrArg some (Eq.symm (e _ ?_))
    rfl
theorem c_miss {S R : St} {n i x : Nat} (h4 : R.1 4 = (n : Int)) (hn3 : n ≤ 300) (hi : i < n) (c5 : S.1 11 = (i : Int)) (hx : x < 16) (hxR : R.2 0 i = (x : Int)) (hw : wr (S.2 1 x) = S.2 1 x) (hS1 : ¬ (S.2 1 x = 1 ∨ S.2 1 x = 2)) : fX2_step (S, R) = (cls (fX2_bring (setI S 17 0, R) (x : Int)) (fun u => u) fun r9 Y8 => nm r9 fun x10 => fX2_step_j61 (x : Int) x10 Y8) := by
  simp only [fX2_step, c5, e_has h4 hn3 (wr_nat (show i < 2147483648 by omega)), cls_s, if_pos (show 0 ≤ (i : Int) ∧ (i : Int) < (n : Int) by omega), wl_1, nm, bd_n (show i < 300 by omega), Int.toNat_natCast, hxR, c_lies (S := S) (R := R) hx hw, if_neg hS1, cb_0, sI1, wl_0, ↓reduceIte, Int.reduceEq]
theorem hN_mod {w k hd : Nat} (z : w = 3) (h : hd < k) : hN w k (hd : Int) = (((hd + 1) % k : Nat) : Int) := by
  unfold hN
  rw [if_pos z]
  by_cases y : hd + 1 < k
  · rw [if_pos (by omega), Nat.mod_eq_of_lt y]; omega
  · have e : hd + 1 = k := by omega
    rw [if_neg (by omega), e, Nat.mod_self]; rfl
theorem m_full {MB M1 : St} {w k g spot : Nat} {i x b : Int} (g1 : g < 16) (hk1 : 1 ≤ k) (hk8 : k ≤ 8) (h8 : w ≤ 8) (g6 : fX4_chosen MB i = some ((g : Int), M1)) (g7 : M1.2 18 g = (spot : Int)) (g8 : M1.1 11 = (w : Int)) (g9 : M1.1 12 = (k : Int)) (g10 : 0 ≤ M1.1 24 ∧ M1.1 24 < (k : Int)) : (cls (fX4_chosen MB i) (fun u => u) fun r119 Y118 => nm (setI Y118 28 r119) fun Y120 => bd (Y120.1 28) 16 (nm (Y120.2 18 (Int.toNat (Y120.1 28))) fun x121 => bd (Y120.1 28) 16 (nm (setA Y120 18 (Int.toNat (Y120.1 28)) (-1)) fun Y122 => clv (fX4_leave Y122 (Y122.1 28)) (fun u => u) fun Y123 => if wr (Y123.1 11) = wr 3 then (cz (Y123.1 12) (fX4_serveOne_j136 i x b x121 ((remI ((Y123.1 24) + 1) (Y123.1 12))) Y123)) else (fX4_serveOne_j136 i x b x121 ((Y123.1 24)) Y123)))) = fX4_serveOne_j139 i x b (spot : Int) (lvM M1 g (hN w k (M1.1 24)) (if w = 7 then M1.2 21 g else M1.1 26)) := by
  have hlv := m_leave2 (M := M1) (w := w) g1 g8 h8
  simp only [g6, cls_s, nm, sI1, ↓reduceIte, bd_n g1, Int.toNat_natCast, sI2, sA1, g7, hlv, clv_s, lvM_1, Nat.reduceEqDiff, g8, g9, wr_nat (show w < 2147483648 by omega), wl_3, fX4_serveOne_j136, lvM_24]
  by_cases z : w = 3
  · obtain ⟨hd, ehd⟩ : ∃ hd : Nat, M1.1 24 = (hd : Int) := ⟨(M1.1 24).toNat, by omega⟩
    have z' : (w : Int) = 3 := by omega
    have e1 : (hd : Int) + 1 = ((hd + 1 : Nat) : Int) := by omega
    rw [if_pos z', cz_pos (by rw [wr_nat (by omega)]; omega), ehd, e1, rem_nat (by omega) (by omega) (by omega), hN_mod z (by omega)]
  · have z' : ¬ (w : Int) = 3 := by omega
    have e2 : hN w k (M1.1 24) = M1.1 24 := by unfold hN; rw [if_neg z]
    rw [if_neg z', e2]
theorem m_missA {M MB : St} {x : Nat} {i b : Int} (hx : x < 16) (hl : M.2 13 x = 0) (p2 : fX4_fromBook (setI (setI M 27 0) 28 (-1)) (x : Int) = some (b, MB)) : fX4_serveOne_j22 i (x : Int) 0 M = (if wr (MB.1 22) = wr (MB.1 12) then (cls (fX4_chosen MB i) (fun u => u) fun r119 Y118 => nm (setI Y118 28 r119) fun Y120 => bd (Y120.1 28) 16 (nm (Y120.2 18 (Int.toNat (Y120.1 28))) fun x121 => bd (Y120.1 28) 16 (nm (setA Y120 18 (Int.toNat (Y120.1 28)) (-1)) fun Y122 => clv (fX4_leave Y122 (Y122.1 28)) (fun u => u) fun Y123 => if wr (Y123.1 11) = wr 3 then (cz (Y123.1 12) (fX4_serveOne_j136 i (x : Int) b x121 ((remI ((Y123.1 24) + 1) (Y123.1 12))) Y123)) else (fX4_serveOne_j136 i (x : Int) b x121 ((Y123.1 24)) Y123)))) else (fX4_serveOne_j139 i (x : Int) b (MB.1 22) MB)) := by
  simp only [fX4_serveOne_j22, nm, bd_n hx, Int.toNat_natCast, sI2, hl, wl_0, ↓reduceIte, p2, cls_s]
theorem nm_q {α O : Type} (a : α) (f : α → Option O) : nm a f = f a := rfl
theorem c_bringA {S R SB : St} {x to : Int} {ly k : Nat} (p1 : fX2_partFor (S, R) x = some (to, (SB, R))) (hly : fX2_lying (SB, R) = some ((ly : Int), (SB, R))) (d3 : SB.1 10 = (k : Int)) (hk8 : k ≤ 8) (h : ly < k) : fX2_bring (S, R) x = fX2_bring_j42 x to (ly : Int) (-1) (SB, R) := by
  have e : wr (ly : Int) < wr (SB.1 10) := by rw [d3, wr_nat (by omega), wr_nat (by omega)]; omega
  unfold fX2_bring
  rw [p1, cls_s, nm_q, hly, cls_s, nm_q, nm_q]
  rw [if_pos e]
theorem c_bringB {S R SB S1 S2 : St} {x to spot : Int} {k g : Nat} (p1 : fX2_partFor (S, R) x = some (to, (SB, R))) (hly : fX2_lying (SB, R) = some ((k : Int), (SB, R))) (d3 : SB.1 10 = (k : Int)) (g3 : fX2_chooseGoing (SB, R) = some ((g : Int), (S1, R))) (g1 : g < 16) (g4 : S1.2 7 g = spot) (g5 : fX2_takeAway (S1, R) (g : Int) = some (S2, R)) : fX2_bring (S, R) x = fX2_bring_j42 x to spot (g : Int) (S2, R) := by
  have e : ¬ wr (k : Int) < wr (SB.1 10) := by rw [d3]; exact Int.lt_irrefl _
  unfold fX2_bring
  rw [p1, cls_s, nm_q, hly, cls_s, nm_q, nm_q]
  rw [if_neg e]
  simp only [g3, cls_s, nm, bd_n g1, Int.toNat_natCast, g4, g5, clv_s]
theorem step_rel {S R M : St} {n : Nat} {r p : Nat → Nat} {w k i ly : Nat} (h : SH S R M n r p w k i ly (fun q => q < ly)) (hi : i < n) : ∃ (S' M' : St) (g : Int) (ly' : Nat), fX2_step (S, R) = some (g, (S', R)) ∧ fX4_serveOne M (i : Int) = some M' ∧ SH S' R M' n r p w k (i + 1) ly' (fun q => q < ly') ∧ M'.1 28 = g ∧ S'.1 17 = M'.1 27 ∧ M'.1 27 = M.2 13 (r i) ∧ (M.2 13 (r i) = 0 ∨ M.2 13 (r i) = 1) ∧ (-1 ≤ g ∧ g < 16) ∧ FR M M' := by
  obtain ⟨hR, ⟨h8, hk1, hk8, hin, hlyk⟩, hsc, -, hC, hT, hPl, hN1⟩ := id h
  obtain ⟨c1, c2, c3, c4, c5, c6, c7, c8, c9, c10, c11, c12, c13, c14, c15, c16, c17, c18, c19⟩ := hsc
  have hn3 := hR.2.2.1
  obtain ⟨hx, hxR, hxM⟩ := hR.2.2.2.1 i hi
  have hl01 := (TH_r (hT (r i) hx)).2.2.2
  rcases hl01 with hl | hl
  · -- a miss
    have hS1 : ¬ (S.2 1 (r i) = 1 ∨ S.2 1 (r i) = 2) := by have := (hT (r i) hx).1; omega
    have hA : SH (setI S 17 0) R (setI (setI M 27 0) 28 (-1)) n r p w k i ly (fun q => q < ly) := SH_setS (SH_setM h (fun j a b => by simp only [sI1, if_neg a, if_neg b]) rfl) (fun j a => by simp only [sI1, if_neg a]) rfl
    have hFA : FR M (setI (setI M 27 0) 28 (-1)) := ⟨fun j hj => by simp only [sI1, if_neg (show ¬ j = 27 by omega), if_neg (show ¬ j = 28 by omega)], fun _ _ _ => rfl⟩
    obtain ⟨SB, MB, to, b, p1, p2, hB, htb, hB1, hB13, hB17, hB27, hB28, hFB⟩ := book_rel (x := r i) hA hx (by simp only [sI2]; exact hl)
    simp only [sI1, Nat.reduceEqDiff, ↓reduceIte] at hB17 hB27 hB28
    have hMB : ∀ t, MB.2 13 t = M.2 13 t := fun t => congrFun hB13 t
    obtain ⟨hRB, -, hscB, -, hCB, hTB, -, -⟩ := id hB
    obtain ⟨d1, d2, d3, d4, d5, d6, d7, d8, d9, d10, d11, d12, d13, d14, d15, d16, d17, d18, d19⟩ := hscB
    have hly : fX2_lying (SB, R) = some ((ly : Int), (SB, R)) := by rw [c_lying, d7]
    -- the judge's step up to bring
    have eS := c_miss hR.1 hn3 hi c5 hx hxR (TH_r (hT (r i) hx)).1.1 hS1
    have eM : ∀ res, fX4_serveOne_j22 (i : Int) ((r i : Nat) : Int) 0 M = res → fX4_serveOne M (i : Int) = res := fun res z => by
      rw [← z]
      simp only [fX4_serveOne, bd_n (show i < 300 by omega), nm, Int.toNat_natCast, hxM, bd_n hx, hl, wl_0, ↓reduceIte]
    have eM2 := m_missA (i := (i : Int)) hx hl p2
    by_cases hfull : ly < k
    · obtain ⟨S', M', q1, q2, q3, q4, q5, q6, q7⟩ := ins_rel (spot := ly) (v := -1) hB hi hB1 ((hMB _).trans hl) hfull (by omega) hfull htb
      refine ⟨S', M', -1, ly + 1, eS.trans ?_, eM _ ?_, SH_occ q3 rfl (fun q hq => by omega), ?_, ?_, ?_, Or.inl hl, by omega, FR_tr hFA (FR_tr hFB q7)⟩
      · rw [c_bringA p1 hly d3 hk8 hfull]; exact q1
      · rw [eM2, d6, d4, wr_nat (show ly < 2147483648 by omega), wr_nat (show k < 2147483648 by omega), if_neg (by omega)]
        exact q2
      · rw [q6, hB28]
      · rw [q4, q5, hB17, hB27]
      · rw [q5, hB27, hl]
    · have hlk : ly = k := by omega
      subst hlk
      obtain ⟨g, spot, S1, S2, M1, g1, g2, g3, g4, g5, g6, g7, g8, g9, g10, g11, g12, g13, g14, g15, g16⟩ := go_all hB hi ((hMB _).trans hl)
      obtain ⟨S', M', q1, q2, q3, q4, q5, q6, q7⟩ := ins_rel (spot := spot) (v := (g : Int)) g11 hi (g13 _ hB1) (g12 _ ((hMB _).trans hl)) g2 (by simp) (by omega) htb
      have hFL : FR M1 (lvM M1 g (hN w ly (M1.1 24)) (if w = 7 then M1.2 21 g else M1.1 26)) := ⟨fun j hj => by rw [lvM_1, if_neg (by omega), if_neg (by omega), if_neg (by omega), if_neg (by omega)], fun a t ha => by rw [lvM_2]; split; rw [if_neg (by omega), if_neg (by omega)]; rfl⟩
      refine ⟨S', M', (g : Int), ly, eS.trans ?_, eM _ ?_, SH_occ q3 (by omega) (fun q hq => by omega), ?_, ?_, ?_, Or.inl hl, by omega, FR_tr hFA (FR_tr hFB (FR_tr g16 (FR_tr hFL q7)))⟩
      · rw [c_bringB p1 hly d3 g3 g1 g4 g5]; exact q1
      · rw [eM2, d6, d4, if_pos rfl]
        exact (m_full g1 hk1 hk8 h8 g6 g7 g8 g9 g10).trans q2
      · rw [q6, lvM_1]; simp
      · rw [q4, q5, g14, hB17, lvM_1]; simp; rw [g15, hB27]
      · rw [q5, lvM_1]; simp; rw [g15, hB27, hl]
  · obtain ⟨S', M', q1, q2, q3, q4, q5, q6, q7⟩ := hit_rel h hi hl
    exact ⟨S', M', -1, ly, q1, q2, q3, q6, q4.trans q5.symm, q5.trans hl.symm, Or.inr hl, by omega, q7⟩
