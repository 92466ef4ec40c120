/-! a miss: what goes leaves (ways without books) -/
def lvM (M : St) (g : Nat) (h' lev' : Int) : St := setI (setI (setA (setI (setA (setA (setA (setA (setI M 28 (g : Int)) 18 g (-1)) 13 g 0) 17 g 0) 16 g 0) 26 lev') 21 g 0) 22 (M.1 22 - 1)) 24 h'
theorem lvM_1 (M : St) (g : Nat) (h' lev' : Int) (j : Nat) : (lvM M g h' lev').1 j = if j = 24 then h' else if j = 22 then M.1 22 - 1 else if j = 26 then lev' else if j = 28 then (g : Int) else M.1 j := by
  simp only [lvM, sI1, sA1]
theorem lvM_2 (M : St) (g : Nat) (h' lev' : Int) (a t : Nat) : (lvM M g h' lev').2 a t = if t = g then (if a = 13 ∨ a = 16 ∨ a = 17 ∨ a = 21 then 0 else if a = 18 then -1 else M.2 a t) else M.2 a t := by
  simp only [lvM, sI2, sA2]; grind
theorem m_leave {M : St} {w g : Nat} (hg : g < 16) (hw : M.1 11 = (w : Int)) (h8 : w ≤ 8) (h' : Int) : (clv (fX4_leave (setA (setI M 28 (g : Int)) 18 g (-1)) (g : Int)) (fun u => u) fun Y => some (setI Y 24 h')) = some (lvM M g h' (if w = 7 then M.2 21 g else M.1 26)) := by
  simp only [fX4_leave, fX4_leave_j44, nm, bd_n hg, Int.toNat_natCast, sA1, sI1, sI2, sA2, hw, wr_nat (show w < 2147483648 by omega), wl_7, cb_0, Nat.reduceEqDiff, ↓reduceIte, lvM]
  by_cases h7 : w = 7
  · subst h7
    simp only [show ((7 : Nat) : Int) = 7 from rfl, ↓reduceIte, clv_s]
  · have e7 : ¬ (w : Int) = 7 := by omega
    simp only [if_neg e7, if_neg h7, clv_s]
theorem c_takeN {S R : St} {w g : Nat} (hg : g < 16) (hw : S.1 9 = (w : Int)) (h8 : w ≤ 8) (hb : ¬ (w = 5 ∨ w = 6)) (hp : 0 ≤ S.2 1 g ∧ S.2 1 g < 5) : fX2_takeAway (S, R) (g : Int) = some (mvS (setI S 16 (if w = 7 then S.2 6 g else S.1 16)) g 0, R) := by
  have e0 : setI S 16 (S.1 16) = S := st_ext (fun j => by rw [sI1]; split <;> simp_all) (fun _ _ => rfl)
  have hbk : ∀ a : Int, fX2_bookFor (setI S 16 a, R) (g : Int) = some (0, (setI S 16 a, R)) := fun a => by
    have e6 : ¬ (w : Int) = 6 := by omega
    simp only [fX2_bookFor, fX2_bookFor_j19, fX2_bookFor_j33, c_hasBooks (S := setI S 16 a) (w := w) (by simp only [sI1, Nat.reduceEqDiff, ↓reduceIte]; exact hw) h8, cls_s, if_neg hb, wl_0, ↓reduceIte, sI1, Nat.reduceEqDiff, hw, wr_nat (show w < 2147483648 by omega), wl_6, if_neg e6]
  have hmv : ∀ a : Int, fX2_move (setI S 16 a, R) (g : Int) 0 = some (mvS (setI S 16 a) g 0, R) := fun a => c_move (to := 0) hg (by decide) hp
  have hj : ∀ a : Int, fX2_takeAway_j19 (g : Int) (setI S 16 a, R) = some (mvS (setI S 16 a) g 0, R) := fun a => by
    simp only [fX2_takeAway_j19, fX2_takeAway_j52, hbk, cls_s, nm, wl_0, ↓reduceIte, hmv, clv_s]
  simp only [fX2_takeAway, nm, bd_n hg, Int.toNat_natCast, hw, wr_nat (show w < 2147483648 by omega), wl_7]
  by_cases h7 : w = 7
  · have e7 : (w : Int) = 7 := by omega
    simp only [if_pos e7, if_pos h7]
    exact hj _
  · have e7 : ¬ (w : Int) = 7 := by omega
    simp only [if_neg e7, if_neg h7]
    have := hj (S.1 16)
    rw [e0] at this ⊢
    exact this
theorem rem_rel {S R M : St} {n : Nat} {r p : Nat → Nat} {w k i : Nat} {g : Nat} {h' lev' : Int} (h : SH S R M n r p w k i k (fun q => q < k)) (hb : ¬ (w = 5 ∨ w = 6)) (hg : g < 16) (hgl : M.2 13 g = 1) (hmark : (w = 2 ∨ w = 3) → M.2 17 g = 0) (hh : 0 ≤ h' ∧ h' < (k : Int)) (hlev : 0 ≤ lev' ∧ lev' ≤ 1000 * (i : Int)) : ∃ spot : Nat, spot < k ∧ S.2 7 g = (spot : Int) ∧ M.2 18 g = (spot : Int) ∧ SH (mvS (setI (setI S 14 h') 16 lev') g 0) R (lvM M g h' lev') n r p w k i (k - 1) (fun q => q ≠ spot) := by
  obtain ⟨hR, ⟨h8, hk1, hk8, hin, hlyk⟩, hsc, ⟨mk, hmk, hmk2, hmk3, hmk4⟩, hC, hT, hP, hN⟩ := h
  obtain ⟨c1, c2, c3, c4, c5, c6, c7, c8, c9, c10, c11, c12, c13, c14, c15, c16, c17, c18, c19⟩ := hsc
  have hg0 := hT g hg
  obtain ⟨spot, s1, s2, s3, s4⟩ := hg0.2.2.2.2.1 hgl
  have hS1 : S.2 1 g = 1 := by have := hg0.1; have := (hg0.2.2.1 hb).1; omega
  have hFR : FR M (lvM M g h' lev') := ⟨fun j hj => by rw [lvM_1, if_neg (by omega), if_neg (by omega), if_neg (by omega), if_neg (by omega)], fun a t ha => by rw [lvM_2]; split; rw [if_neg (by omega), if_neg (by omega)]; rfl⟩
  have n2 : ∀ t, t ≠ g → ∀ a, (lvM M g h' lev').2 a t = M.2 a t := fun t ht a => by rw [lvM_2, if_neg ht]
  have n1 : ∀ t, t ≠ g → ∀ a, a ≠ 2 → (mvS (setI (setI S 14 h') 16 lev') g 0).2 a t = S.2 a t := fun t ht a ha => mvS_n _ _ _ _ _ ht ha
  have n8 : ∀ q, (mvS (setI (setI S 14 h') 16 lev') g 0).2 8 q = S.2 8 q := fun q => mvS_a _ _ _ _ 8 (by decide)
  have m1 : ∀ j, j ≠ 24 → j ≠ 22 → j ≠ 26 → j ≠ 28 → (lvM M g h' lev').1 j = M.1 j := fun j a b c d => by rw [lvM_1, if_neg a, if_neg b, if_neg c, if_neg d]
  have g13 : (lvM M g h' lev').2 13 g = 0 := by rw [lvM_2]; simp
  have g16 : (lvM M g h' lev').2 16 g = 0 := by rw [lvM_2]; simp
  have g17 : (lvM M g h' lev').2 17 g = 0 := by rw [lvM_2]; simp
  have g18 : (lvM M g h' lev').2 18 g = -1 := by rw [lvM_2]; simp
  have g21 : (lvM M g h' lev').2 21 g = 0 := by rw [lvM_2]; simp
  have g19 : (lvM M g h' lev').2 19 g = M.2 19 g := by rw [lvM_2]; simp
  have hC' : CNT (setI (setI S 14 h') 16 lev') := hC
  have hCn := mv_cnt (to := 0) hC' hg (by decide) (by simp only [sI2]; omega)
  have i2 : ∀ j : Nat, 1 ≤ j → (mvS (setI (setI S 14 h') 16 lev') g 0).2 2 j = S.2 2 j - (if j = 1 then 1 else 0) := fun j hj => by
    have e3 : (mvS (setI (setI S 14 h') 16 lev') g 0).2 2 j = S.2 2 j - (if j = (S.2 1 g).toNat then 1 else 0) + (if j = 0 then 1 else 0) := rfl
    rw [e3, hS1, if_neg (show ¬ j = 0 by omega)]
    simp
  refine ⟨spot, s1, (hg0.2.2.2.1 hgl).2.2.2.2.2.2.2.2.2.trans s3, s3, RR_keep hR hFR, ⟨h8, hk1, hk8, hin, by omega⟩, ?_, ?_, hCn, ?_, ?_, hN⟩
  · have d1 : (mvS (setI (setI S 14 h') 16 lev') g 0).1 14 = h' := rfl
    have d2 : (mvS (setI (setI S 14 h') 16 lev') g 0).1 16 = lev' := rfl
    have d3 : (lvM M g h' lev').1 24 = h' := by rw [lvM_1]; simp
    have d4 : (lvM M g h' lev').1 26 = lev' := by rw [lvM_1]; simp
    have d5 : (lvM M g h' lev').1 22 = ((k - 1 : Nat) : Int) := by rw [lvM_1]; simp; omega
    unfold SC
    rw [d1, d2, d3, d4, d5, i2 1 (by decide), i2 2 (by decide), i2 3 (by decide), i2 4 (by decide), m1 11 (by decide) (by decide) (by decide) (by decide), m1 12 (by decide) (by decide) (by decide) (by decide), m1 23 (by decide) (by decide) (by decide) (by decide), m1 25 (by decide) (by decide) (by decide) (by decide)]
    exact ⟨c1, c2, c3, c4, c5, rfl, by simp; omega, c8, rfl, hh.1, hh.2, c12, c13, c14, rfl, hlev.1, hlev.2, by simp; omega, by simp; omega⟩
  · refine ⟨mk, hmk, hmk2, fun hw t ht => ?_, fun hw t ht => ?_⟩
    · by_cases e : t = g
      · subst e
        right
        rcases hmk3 hw t ht with q | q
        · have := hmark hw; omega
        · exact ⟨q.1, g17⟩
      · rw [n2 t e 17, n2 t e 13]; exact hmk3 hw t ht
    · by_cases e : t = g
      · subst e; exact g17
      · rw [n2 t e 17]; exact hmk4 hw t ht
  · intro t ht
    by_cases e : t = g
    · subst e
      obtain ⟨q1, q3⟩ := mvS_x (setI (setI S 14 h') 16 lev') t 0
      have q1 : (mvS (setI (setI S 14 h') 16 lev') t 0).2 1 t = 0 := q1
      have hnl : ∀ {A : Prop}, (lvM M t h' lev').2 13 t = 1 → A := fun z => by omega
      unfold TH
      rw [q1, g16, g18, g19, g21]
      exact ⟨Or.inr ⟨g13, Or.inl rfl⟩, fun q => absurd q hb, fun q => ⟨Or.inl rfl, (hg0.2.2.1 hb).2⟩, fun q => hnl q, fun q => hnl q, fun _ => ⟨rfl, rfl, rfl⟩, fun _ q => hnl q, fun q _ => absurd q hb, fun _ q => hnl q⟩
    · refine TH_keep (hT t ht) (Nat.le_refl _) ⟨n1 t e 1 (by decide), n1 t e 3 (by decide), n1 t e 4 (by decide), n1 t e 5 (by decide), n1 t e 6 (by decide), n1 t e 7 (by decide)⟩ ⟨n2 t e 13, n2 t e 14, n2 t e 15, n2 t e 16, n2 t e 18, n2 t e 19, n2 t e 20, n2 t e 21⟩ (fun q hq _ h8q => ⟨fun z => ?_, n8 q⟩) (fun _ _ j d1 d2 => by omega)
      rw [z, s4] at h8q
      omega
  · intro q hq ho
    obtain ⟨t, d1, d2, d3, d4⟩ := hP q hq hq
    have e : t ≠ g := fun z => by rw [z, s3] at d4; omega
    exact ⟨t, d1, (n8 q).trans d2, (n2 t e 13).trans d3, (n2 t e 18).trans d4⟩
