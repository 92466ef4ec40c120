/-! one asking, on both sides -/
theorem SH_occ {S R M : St} {n : Nat} {r p : Nat → Nat} {w k i ly ly' : Nat} {occ occ' : Nat → Prop} (h : SH S R M n r p w k i ly occ) (he : ly = ly') (ho : ∀ q, q < k → (occ q ↔ occ' q)) : SH S R M n r p w k i ly' occ' := by
  subst he
  obtain ⟨hR, hb, hsc, hmk, hC, hT, hP, hN⟩ := h
  refine ⟨hR, hb, hsc, hmk, hC, fun t ht => ?_, fun q hq z => hP q hq ((ho q hq).mpr z), hN⟩
  obtain ⟨a1, a2, a3, a4, a5, a6, a7, a8, a9⟩ := hT t ht
  refine ⟨a1, a2, a3, a4, fun z => ?_, a6, a7, a8, a9⟩
  obtain ⟨q, b1, b2, b3⟩ := a5 z
  exact ⟨q, b1, (ho q b1).mp b2, b3⟩
theorem SH_setM {S R M M' : St} {n : Nat} {r p : Nat → Nat} {w k i ly : Nat} {occ : Nat → Prop} (h : SH S R M n r p w k i ly occ) (h1 : ∀ j, j ≠ 27 → j ≠ 28 → M'.1 j = M.1 j) (h2 : M'.2 = M.2) : SH S R M' n r p w k i ly occ := by
  obtain ⟨hR, hb, hsc, hmk, hC, hT, hP, hN⟩ := h
  refine ⟨?_, hb, ?_, ?_, hC, fun t ht => ?_, ?_, hN⟩
  · unfold RR at hR ⊢; rw [h1 2 (by decide) (by decide), h2]; exact hR
  · unfold SC at hsc ⊢
    rw [h1 11 (by decide) (by decide), h1 12 (by decide) (by decide), h1 22 (by decide) (by decide), h1 23 (by decide) (by decide), h1 24 (by decide) (by decide), h1 25 (by decide) (by decide), h1 26 (by decide) (by decide)]; exact hsc
  · unfold MK at hmk ⊢; rw [h2]; exact hmk
  · have := hT t ht
    unfold TH at this ⊢; rw [h2]; exact this
  · unfold PL at hP ⊢; rw [h2]; exact hP
theorem SH_setS {S S' R M : St} {n : Nat} {r p : Nat → Nat} {w k i ly : Nat} {occ : Nat → Prop} (h : SH S R M n r p w k i ly occ) (h1 : ∀ j, j ≠ 17 → S'.1 j = S.1 j) (h2 : S'.2 = S.2) : SH S' R M n r p w k i ly occ := by
  obtain ⟨hR, hb, hsc, hmk, hC, hT, hP, hN⟩ := h
  refine ⟨hR, hb, ?_, ?_, ?_, fun t ht => ?_, ?_, hN⟩
  · unfold SC at hsc ⊢
    rw [h1 9 (by decide), h1 10 (by decide), h1 11 (by decide), h1 13 (by decide), h1 14 (by decide), h1 15 (by decide), h1 16 (by decide), h2]; exact hsc
  · unfold MK at hmk ⊢; rw [h1 12 (by decide)]; exact hmk
  · unfold CNT at hC ⊢; rw [h2]; exact hC
  · have := hT t ht
    unfold TH at this ⊢; rw [h2]; exact this
  · unfold PL at hP ⊢; rw [h2]; exact hP
theorem step_rel {S R M : St} {n : Nat} {r p : Nat → Nat} {w k i ly : Nat} (h : SH S R M n r p w k i ly (fun q => q < ly)) (hi : i < n) : ∃ (S' M' : St) (g : Int) (ly' : Nat), fX2_step (S, R) = some (g, (S', R)) ∧ fX4_serveOne M (i : Int) = some M' ∧ SH S' R M' n r p w k (i + 1) ly' (fun q => q < ly') ∧ M'.1 28 = g ∧ S'.1 17 = M'.1 27 ∧ M'.1 27 = M.2 13 (r i) ∧ (M.2 13 (r i) = 0 ∨ M.2 13 (r i) = 1) ∧ (-1 ≤ g ∧ g < 16) ∧ FR M M' := by
  obtain ⟨hR, ⟨h8, hk1, hk8, hin, hlyk⟩, hsc, -, hC, hT, hPl, hN1⟩ := id h
  obtain ⟨c1, c2, c3, c4, c5, c6, c7, c8, c9, c10, c11, c12, c13, c14, c15, c16, c17, c18, c19⟩ := hsc
  have hn3 := hR.2.2.1
  obtain ⟨hx, hxR, hxM⟩ := hR.2.2.2.1 i hi
  have hl01 := (TH_r (hT (r i) hx)).2.2.2
  rcases hl01 with hl | hl
  · -- a miss
    have hS1 : ¬ (S.2 1 (r i) = 1 ∨ S.2 1 (r i) = 2) := by have := (hT (r i) hx).1; omega
    have hA : SH (setI S 17 0) R (setI (setI M 27 0) 28 (-1)) n r p w k i ly (fun q => q < ly) := SH_setS (SH_setM h (fun j a b => by simp only [sI1, if_neg a, if_neg b]) rfl) (fun j a => by simp only [sI1, if_neg a]) rfl
    have hFA : FR M (setI (setI M 27 0) 28 (-1)) := ⟨fun j hj => by simp only [sI1, if_neg (show ¬ j = 27 by omega), if_neg (show ¬ j = 28 by omega)], fun _ _ _ => rfl⟩
    obtain ⟨SB, MB, to, b, p1, p2, hB, htb, hB1, hB13, hB17, hB27, hB28, hFB⟩ := book_rel (x := r i) hA hx (by simp only [sI2]; exact hl)
    simp only [sI1, Nat.reduceEqDiff, ↓reduceIte] at hB17 hB27 hB28
    have hMB : ∀ t, MB.2 13 t = M.2 13 t := fun t => congrFun hB13 t
    obtain ⟨hRB, -, hscB, -, hCB, hTB, -, -⟩ := id hB
    obtain ⟨d1, d2, d3, d4, d5, d6, d7, d8, d9, d10, d11, d12, d13, d14, d15, d16, d17, d18, d19⟩ := hscB
    have hly : fX2_lying (SB, R) = some ((ly : Int), (SB, R)) := by
      have t1 : Int.toNat 1 = 1 := rfl
      have t2 : Int.toNat 2 = 2 := rfl
      simp only [fX2_lying, bd_n (n := 1) (m := 5) (by decide), t1, t2, show bd (O := Int × (St × St)) 1 5 = fun F => F from funext fun F => bd_n (n := 1) (m := 5) (by decide), show bd (O := Int × (St × St)) 2 5 = fun F => F from funext fun F => bd_n (n := 2) (m := 5) (by decide), d7]
    -- the judge's step up to bring
    have eS : ∀ res, (cls (fX2_bring (setI S 17 0, R) ((r i : Nat) : Int)) (fun u => u) fun r9 Y8 => nm r9 fun x10 => fX2_step_j61 ((r i : Nat) : Int) x10 Y8) = res → fX2_step (S, R) = res := fun res z => by
      rw [← z]
      simp only [fX2_step, c5, e_has hR.1 hn3 (wr_nat (show i < 2147483648 by omega)), cls_s, if_pos (show 0 ≤ (i : Int) ∧ (i : Int) < (n : Int) by omega), wl_1, nm, bd_n (show i < 300 by omega), Int.toNat_natCast, hxR, c_lies (S := S) (R := R) hx (TH_r (hT (r i) hx)).1.1, if_neg hS1, cb_0, sI1, wl_0, ↓reduceIte]
      rfl
    have eM : ∀ res, fX4_serveOne_j22 (i : Int) ((r i : Nat) : Int) 0 M = res → fX4_serveOne M (i : Int) = res := fun res z => by
      rw [← z]
      simp only [fX4_serveOne, bd_n (show i < 300 by omega), nm, Int.toNat_natCast, hxM, bd_n hx, hl, wl_0, ↓reduceIte]
    have eM2 : fX4_serveOne_j22 (i : Int) ((r i : Nat) : Int) 0 M = (if wr (MB.1 22) = wr (MB.1 12) then (cls (fX4_chosen MB (i : Int)) (fun u => u) fun r119 Y118 => nm (setI Y118 28 r119) fun Y120 => bd (Y120.1 28) 16 (nm (Y120.2 18 (Int.toNat (Y120.1 28))) fun x121 => bd (Y120.1 28) 16 (nm (setA Y120 18 (Int.toNat (Y120.1 28)) (-1)) fun Y122 => clv (fX4_leave Y122 (Y122.1 28)) (fun u => u) fun Y123 => if wr (Y123.1 11) = wr 3 then (cz (Y123.1 12) (fX4_serveOne_j136 (i : Int) ((r i : Nat) : Int) b x121 ((remI ((Y123.1 24) + 1) (Y123.1 12))) Y123)) else (fX4_serveOne_j136 (i : Int) ((r i : Nat) : Int) b x121 ((Y123.1 24)) Y123)))) else (fX4_serveOne_j139 (i : Int) ((r i : Nat) : Int) b (MB.1 22) MB)) := by
      simp only [fX4_serveOne_j22, nm, bd_n hx, Int.toNat_natCast, sI2, hl, wl_0, ↓reduceIte, p2, cls_s]
    by_cases hfull : ly < k
    · obtain ⟨S', M', q1, q2, q3, q4, q5, q6, q7⟩ := ins_rel (spot := ly) (v := -1) hB hi hB1 ((hMB _).trans hl) hfull (by omega) hfull htb
      refine ⟨S', M', -1, ly + 1, eS _ ?_, eM _ ?_, SH_occ q3 rfl (fun q hq => by omega), ?_, ?_, ?_, Or.inl hl, by omega, FR_tr hFA (FR_tr hFB q7)⟩
      · rw [← q1]
        simp only [fX2_bring, p1, cls_s, nm, hly, d3, wr_nat (show ly < 2147483648 by omega), wr_nat (show k < 2147483648 by omega), if_pos (show (ly : Int) < (k : Int) by omega)]
      · rw [eM2, d6, d4, wr_nat (show ly < 2147483648 by omega), wr_nat (show k < 2147483648 by omega), if_neg (by omega)]
        exact q2
      · rw [q6, hB28]
      · rw [q4, q5, hB17, hB27]
      · rw [q5, hB27, hl]
    · have hlk : ly = k := by omega
      subst hlk
      obtain ⟨g, spot, S1, S2, M1, g1, g2, g3, g4, g5, g6, g7, g8, g9, g10, g11, g12, g13, g14, g15, g16⟩ := go_all hB hi ((hMB _).trans hl)
      obtain ⟨S', M', q1, q2, q3, q4, q5, q6, q7⟩ := ins_rel (spot := spot) (v := (g : Int)) g11 hi (g13 _ hB1) (g12 _ ((hMB _).trans hl)) g2 (by simp) (by omega) htb
      have hFL : FR M1 (lvM M1 g (hN w ly (M1.1 24)) (if w = 7 then M1.2 21 g else M1.1 26)) := ⟨fun j hj => by rw [lvM_1, if_neg (by omega), if_neg (by omega), if_neg (by omega), if_neg (by omega)], fun a t ha => by rw [lvM_2]; split; rw [if_neg (by omega), if_neg (by omega)]; rfl⟩
      refine ⟨S', M', (g : Int), ly, eS _ ?_, eM _ ?_, SH_occ q3 (by omega) (fun q hq => by omega), ?_, ?_, ?_, Or.inl hl, by omega, FR_tr hFA (FR_tr hFB (FR_tr g16 (FR_tr hFL q7)))⟩
      · rw [← q1]
        simp only [fX2_bring, p1, cls_s, nm, hly, d3, wr_nat (show ly < 2147483648 by omega), if_neg (show ¬ (ly : Int) < (ly : Int) by omega), g3, bd_n g1, Int.toNat_natCast, g4, g5, clv_s]
      · rw [eM2, d6, d4, if_pos rfl]
        have hlv := fun h' => m_leave (M := M1) (w := w) g1 g8 h8 h'
        generalize hYY : fX4_leave (setA (setI M1 28 (g : Int)) 18 g (-1)) (g : Int) = YY at hlv
        cases YY with
        | none => have := hlv 0; simp [clv] at this
        | some Y =>
          simp only [clv_s, Option.some.injEq] at hlv
          have y1 : ∀ j, j ≠ 24 → Y.1 j = (lvM M1 g 0 (if w = 7 then M1.2 21 g else M1.1 26)).1 j := fun j hj => by rw [← hlv 0, sI1, if_neg hj]
          have y11 : Y.1 11 = (w : Int) := by rw [y1 11 (by decide), lvM_1]; exact g8
          have y12 : Y.1 12 = (ly : Int) := by rw [y1 12 (by decide), lvM_1]; exact g9
          have y24 : Y.1 24 = M1.1 24 := by
            have hh : Y = setI Y 24 (Y.1 24) := (setI_same Y 24).symm
            sorry
          simp only [g6, cls_s, nm, sI1, ↓reduceIte, bd_n g1, Int.toNat_natCast, sI2, sA1, g7, hYY, clv_s, y11, y12, y24, wr_nat (show w < 2147483648 by omega), wl_3, fX4_serveOne_j136]
          rw [← hlv] at q2
          by_cases z : w = 3
          · obtain ⟨hd, ehd⟩ : ∃ hd : Nat, M1.1 24 = (hd : Int) := ⟨(M1.1 24).toNat, by omega⟩
            have z' : (w : Int) = 3 := by omega
            have e1 : (hd : Int) + 1 = ((hd + 1 : Nat) : Int) := by omega
            rw [if_pos z', cz_pos (by omega), ehd, e1, rem_nat (by omega) (by omega) (by omega)]
            rw [ehd] at q2
            have e2 : hN w ly (hd : Int) = ((hd + 1) % ly : Nat) := by
              unfold hN
              rw [if_pos z]
              by_cases y : hd + 1 < ly
              · rw [if_pos (by omega), Nat.mod_eq_of_lt y]; omega
              · have : hd + 1 = ly := by omega
                rw [if_neg (by omega), this, Nat.mod_self]; rfl
            rw [e2] at q2
            exact q2
          · have z' : ¬ (w : Int) = 3 := by omega
            rw [if_neg z']
            have e2 : hN w ly (M1.1 24) = M1.1 24 := by unfold hN; rw [if_neg z]
            rw [e2] at q2
            exact q2
      · rw [q6, lvM_1]; simp
      · rw [q4, q5, g14, hB17, lvM_1]; simp; rw [g15, hB27]
      · rw [q5, lvM_1]; simp; rw [g15, hB27, hl]
  · obtain ⟨S', M', q1, q2, q3, q4, q5, q6, q7⟩ := hit_rel h hi hl
    exact ⟨S', M', -1, ly, q1, q2, q3, q6, q4.trans q5.symm, q5.trans hl.symm, Or.inr hl, by omega, q7⟩
