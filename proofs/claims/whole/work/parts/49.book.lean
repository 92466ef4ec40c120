/-! a miss, first: out of the book -/
def shN (S : St) (w : Nat) (x : Nat) : Int := if w = 6 then (if S.2 1 x = 3 then (if S.1 15 < S.1 10 then S.1 15 + 1 else S.1 15) else if S.2 1 x = 4 then (if S.1 15 ≤ 0 then S.1 15 else S.1 15 - 1) else S.1 15) else S.1 15
theorem c_partFor {S R : St} {w k x : Nat} (hx : x < 16) (hw : S.1 9 = (w : Int)) (h8 : w ≤ 8) (hk : S.1 10 = (k : Int)) (hk8 : k ≤ 8) (hsh : 0 ≤ S.1 15 ∧ S.1 15 ≤ (k : Int)) (hp : S.2 1 x = 0 ∨ S.2 1 x = 3 ∨ S.2 1 x = 4) : fX2_partFor (S, R) (x : Int) = some (if S.2 1 x = 0 then 1 else 2, (if S.2 1 x = 0 then S else mvS (setI S 15 (shN S w x)) x 0, R)) := by
  have wx : wr (S.2 1 x) = S.2 1 x := wr_id (by omega)
  have wsh : wr (S.1 15) = S.1 15 := wr_id (by omega)
  have mv : ∀ a : Int, fX2_move (setI S 15 a, R) (x : Int) 0 = some (mvS (setI S 15 a) x 0, R) := fun a => c_move (to := 0) hx (by decide) (by simp only [sI2]; omega)
  have e0 : setI S 15 (S.1 15) = S := st_ext (fun j => by rw [sI1]; split <;> simp_all) (fun _ _ => rfl)
  have mv0 : fX2_move (S, R) (x : Int) 0 = some (mvS (setI S 15 (S.1 15)) x 0, R) := by rw [← mv, e0]
  have mi : minI (k : Int) (S.1 15 + 1) = if S.1 15 < (k : Int) then S.1 15 + 1 else S.1 15 := by
    unfold minI
    rw [wr_id (show -2147483648 ≤ S.1 15 + 1 ∧ S.1 15 + 1 < 2147483648 by omega), wr_nat (show k < 2147483648 by omega)]
    split <;> split <;> omega
  have ma : maxI 0 (S.1 15 - 1) = if S.1 15 ≤ 0 then S.1 15 else S.1 15 - 1 := by
    unfold maxI
    rw [wr_id (show -2147483648 ≤ S.1 15 - 1 ∧ S.1 15 - 1 < 2147483648 by omega), wl_0]
    split <;> split <;> omega
  simp only [fX2_partFor, fX2_partFor_j70, fX2_partFor_j47, nm, bd_n hx, Int.toNat_natCast, wx, hw, hk, wr_nat (show w < 2147483648 by omega), wl_6, wl_3, mv, mv0, clv_s, mi, ma, shN]
  rcases hp with q | q | q
  · rw [if_pos q, if_pos q, if_pos q]
  · by_cases h6 : w = 6
    · subst h6; simp [q]
    · have h6' : ¬ (w : Int) = 6 := by omega
      simp [q, h6, h6']
  · by_cases h6 : w = 6
    · subst h6; simp [q]
    · have h6' : ¬ (w : Int) = 6 := by omega
      simp [q, h6, h6']
theorem m_fromBook {M : St} {w k x : Nat} (hx : x < 16) (hw : M.1 11 = (w : Int)) (h8 : w ≤ 8) (hk : M.1 12 = (k : Int)) (hk8 : k ≤ 8) (hsh : 0 ≤ M.1 25 ∧ M.1 25 ≤ (k : Int)) (hp : 0 ≤ M.2 19 x ∧ M.2 19 x < 5) : fX4_fromBook M (x : Int) = some (if M.2 19 x = 3 ∨ M.2 19 x = 4 then 1 else 0, setA (setI M 25 (if w = 6 then (if M.2 19 x = 3 then (if M.1 25 < M.1 12 then M.1 25 + 1 else M.1 25) else if M.2 19 x = 4 then (if M.1 25 ≤ 0 then M.1 25 else M.1 25 - 1) else M.1 25) else M.1 25)) 19 x 0) := by
  have wx : wr (M.2 19 x) = M.2 19 x := wr_id (by omega)
  have wsh : wr (M.1 25) = M.1 25 := wr_id (by omega)
  have e0 : setI M 25 (M.1 25) = M := st_ext (fun j => by rw [sI1]; split <;> simp_all) (fun _ _ => rfl)
  simp only [fX4_fromBook, fX4_fromBook_j116, fX4_fromBook_j113, fX4_fromBook_j73, fX4_fromBook_j70, fX4_fromBook_j25, fX4_fromBook_j20, nm, bd_n hx, Int.toNat_natCast, wx, hw, hk, wsh, wr_nat (show w < 2147483648 by omega), wr_nat (show k < 2147483648 by omega), wl_6, wl_3, wl_4, cb_0, cb_1, sI1, sI2, Nat.reduceEqDiff, ↓reduceIte]
  by_cases h6 : w = 6
  · subst h6
    simp only [show ((6 : Nat) : Int) = 6 from rfl, ↓reduceIte]
    by_cases h3 : M.2 19 x = 3
    · simp only [h3, ↓reduceIte, true_or, show ¬ (3 : Int) = 4 by decide]
      by_cases hs : (k : Int) ≤ M.1 25
      · rw [if_pos hs, if_neg (by omega)]
      · rw [if_neg hs, if_pos (by omega)]
    · by_cases h4 : M.2 19 x = 4
      · simp only [h4, ↓reduceIte, or_true, show ¬ (4 : Int) = 3 by decide]
        by_cases hs : M.1 25 ≤ 0
        · rw [if_pos hs, if_pos hs]
        · rw [if_neg hs, if_neg hs]
      · have h34 : ¬ (M.2 19 x = 3 ∨ M.2 19 x = 4) := by omega
        simp only [if_neg h3, if_neg h4, if_neg h34, e0]
  · have h6' : ¬ (w : Int) = 6 := by omega
    simp only [if_neg h6', if_neg h6, e0]
    by_cases h3 : M.2 19 x = 3
    · simp [h3]
    · by_cases h4 : M.2 19 x = 4
      · simp [h4]
      · have h34 : ¬ (M.2 19 x = 3 ∨ M.2 19 x = 4) := by omega
        simp only [if_neg h3, if_neg h4, if_neg h34]
theorem mvS_1 (S : St) (t to : Nat) : (mvS S t to).1 = S.1 := rfl
theorem mvS_n (S : St) (t to x a : Nat) (h : x ≠ t) (ha : a ≠ 2) : (mvS S t to).2 a x = S.2 a x := by
  simp only [mvS]; grind
theorem mvS_a (S : St) (t to x a : Nat) (ha : 4 ≤ a) : (mvS S t to).2 a x = S.2 a x := by
  simp only [mvS]; grind
theorem mvS_x (S : St) (t to : Nat) : (mvS S t to).2 1 t = (to : Int) ∧ (mvS S t to).2 3 t = S.1 11 := by
  simp [mvS]
theorem cnt_le {S : St} (hC : CNT S) : ∀ j : Nat, 1 ≤ j → j ≤ 4 → 0 ≤ S.2 2 j ∧ S.2 2 j ≤ 16 := fun j h1 h4 => by
  rw [hC j h1 h4]
  have := cn_le (fun t => S.2 1 t = (j : Int)) 16
  omega
theorem book_rel {S R M : St} {n : Nat} {r p : Nat → Nat} {w k i ly : Nat} {occ : Nat → Prop} {x : Nat} (h : SH S R M n r p w k i ly occ) (hx : x < 16) (hl : M.2 13 x = 0) : ∃ S' M' to b, fX2_partFor (S, R) (x : Int) = some (to, (S', R)) ∧ fX4_fromBook M (x : Int) = some (b, M') ∧ SH S' R M' n r p w k i ly occ ∧ ((to = 1 ∧ b = 0) ∨ (to = 2 ∧ b = 1 ∧ (w = 5 ∨ w = 6))) ∧ S'.2 1 x = 0 ∧ M'.2 13 = M.2 13 ∧ S'.1 17 = S.1 17 ∧ M'.1 27 = M.1 27 ∧ M'.1 28 = M.1 28 ∧ FR M M' := by
  obtain ⟨hR, ⟨h8, hk1, hk8, hin, hlyk⟩, hsc, ⟨mk, hmk, hmk2, hmk3, hmk4⟩, hC, hT, hP, hN⟩ := h
  obtain ⟨c1, c2, c3, c4, c5, c6, c7, c8, c9, c10, c11, c12, c13, c14, c15, c16, c17, c18, c19⟩ := hsc
  have hx0 := hT x hx
  obtain ⟨⟨w1, v1, v2⟩, w2, ⟨w3, v3, v4⟩, w4⟩ := TH_r hx0
  have hp : S.2 1 x = 0 ∨ S.2 1 x = 3 ∨ S.2 1 x = 4 := by have := hx0.1; omega
  have hpart : (w = 5 ∨ w = 6) → M.2 19 x = S.2 1 x := hx0.2.1
  have hnb : ¬ (w = 5 ∨ w = 6) → S.2 1 x = 0 ∧ ¬ (M.2 19 x = 3 ∨ M.2 19 x = 4) := fun q => by have := hx0.2.2.1 q; omega
  have ec := c_partFor (R := R) hx c1 h8 c3 hk8 ⟨c13, c14⟩ hp
  have em := m_fromBook hx c2 h8 c4 hk8 (by rw [c12]; exact ⟨c13, c14⟩) ⟨v3, v4⟩
  have hshare : (if w = 6 then (if M.2 19 x = 3 then (if M.1 25 < M.1 12 then M.1 25 + 1 else M.1 25) else if M.2 19 x = 4 then (if M.1 25 ≤ 0 then M.1 25 else M.1 25 - 1) else M.1 25) else M.1 25) = shN S w x := by
    unfold shN
    by_cases h6 : w = 6
    · rw [if_pos h6, if_pos h6, hpart (Or.inr h6), c12, c4, c3]
    · rw [if_neg h6, if_neg h6, c12]
  rw [hshare] at em
  have hshb : 0 ≤ shN S w x ∧ shN S w x ≤ (k : Int) := by
    unfold shN
    split
    · split
      · split <;> omega
      · split
        · split <;> omega
        · omega
    · omega
  by_cases h0 : S.2 1 x = 0
  · rw [if_pos h0, if_pos h0] at ec
    have hno : ¬ (M.2 19 x = 3 ∨ M.2 19 x = 4) := by
      by_cases hb : w = 5 ∨ w = 6
      · rw [hpart hb, h0]; decide
      · exact (hnb hb).2
    rw [if_neg hno] at em
    have hsame : shN S w x = S.1 15 := by
      unfold shN
      split
      · rw [if_neg (by omega), if_neg (by omega)]
      · rfl
    refine ⟨S, _, 1, 0, ec, em, ?_, Or.inl ⟨rfl, rfl⟩, h0, rfl, rfl, rfl, rfl, ⟨fun j hj => by simp only [sA1, sI1]; rw [if_neg (by omega)], fun a t ha => by simp only [sA2, sI2]; rw [if_neg (by omega)]⟩⟩
    have hFR : FR M (setA (setI M 25 (shN S w x)) 19 x 0) := ⟨fun j hj => by simp only [sA1, sI1]; rw [if_neg (by omega)], fun a t ha => by simp only [sA2, sI2]; rw [if_neg (by omega)]⟩
    refine ⟨RR_keep hR hFR, ⟨h8, hk1, hk8, hin, hlyk⟩, ⟨c1, c2, c3, c4, c5, c6, c7, c8, c9, c10, c11, hsame, c13, c14, c15, c16, c17, c18, c19⟩, ⟨mk, hmk, hmk2, hmk3, hmk4⟩, hC, fun t ht => ?_, hP, hN⟩
    by_cases e : t = x
    · subst e
      obtain ⟨a1, a2, a3, a4, a5, a6, a7, a8, a9⟩ := hx0
      have e19 : (setA (setI M 25 (shN S w t)) 19 t 0).2 19 t = 0 := by simp [sA2]
      unfold TH
      rw [e19]
      exact ⟨a1, fun _ => h0.symm, fun q => ⟨(a3 q).1, Or.inl rfl⟩, a4, a5, a6, a7, a8, a9⟩
    · have e19 : (setA (setI M 25 (shN S w x)) 19 x 0).2 19 t = M.2 19 t := by simp [sA2, sI2, e]
      exact TH_keep (hT t ht) (Nat.le_refl _) ⟨rfl, rfl, rfl, rfl, rfl, rfl⟩ ⟨rfl, rfl, rfl, rfl, rfl, e19, rfl, rfl⟩ (fun q _ ho _ => ⟨ho, rfl⟩) (fun _ _ j d1 d2 => by omega)
  · rw [if_neg h0, if_neg h0] at ec
    have hb : w = 5 ∨ w = 6 := Decidable.byContradiction (fun q => h0 (hnb q).1)
    have hyes : M.2 19 x = 3 ∨ M.2 19 x = 4 := by rw [hpart hb]; omega
    rw [if_pos hyes] at em
    refine ⟨_, _, 2, 1, ec, em, ?_, Or.inr ⟨rfl, rfl, hb⟩, (mvS_x _ x 0).1, rfl, rfl, rfl, rfl, ⟨fun j hj => by simp only [sA1, sI1]; rw [if_neg (by omega)], fun a t ha => by simp only [sA2, sI2]; rw [if_neg (by omega)]⟩⟩
    have hFR : FR M (setA (setI M 25 (shN S w x)) 19 x 0) := ⟨fun j hj => by simp only [sA1, sI1]; rw [if_neg (by omega)], fun a t ha => by simp only [sA2, sI2]; rw [if_neg (by omega)]⟩
    have hC' : CNT (setI S 15 (shN S w x)) := hC
    have hCn := mv_cnt (to := 0) hC' hx (by decide) (by simp only [sI2]; omega)
    have i2 : ∀ j : Nat, (mvS (setI S 15 (shN S w x)) x 0).2 2 j = S.2 2 j - (if j = (S.2 1 x).toNat then 1 else 0) + (if j = 0 then 1 else 0) := fun j => rfl
    refine ⟨RR_keep hR hFR, ⟨h8, hk1, hk8, hin, hlyk⟩, ⟨c1, c2, c3, c4, c5, c6, ?_, c8, c9, c10, c11, rfl, hshb.1, hshb.2, c15, c16, c17, ?_, ?_⟩, ⟨mk, hmk, hmk2, hmk3, hmk4⟩, hCn, fun t ht => ?_, ?_, hN⟩
    · rw [i2, i2]; simp only [if_neg (show ¬ 1 = (S.2 1 x).toNat by omega), if_neg (show ¬ 2 = (S.2 1 x).toNat by omega), Nat.reduceEqDiff, ↓reduceIte]; omega
    · rw [i2]; split <;> simp <;> omega
    · rw [i2]; split <;> simp <;> omega
    · by_cases e : t = x
      · subst e
        obtain ⟨a1, a2, a3, a4, a5, a6, a7, a8, a9⟩ := hx0
        obtain ⟨q1, q3⟩ := mvS_x (setI S 15 (shN S w t)) t 0
        have e19 : (setA (setI M 25 (shN S w t)) 19 t 0).2 19 t = 0 := by simp [sA2]
        have q1 : (mvS (setI S 15 (shN S w t)) t 0).2 1 t = 0 := q1
        unfold TH
        rw [e19, q1]
        refine ⟨Or.inr ⟨hl, Or.inl rfl⟩, fun _ => rfl, fun q => absurd hb q, fun q => ?_, fun q => ?_, a6, fun z1 z2 => ?_, fun z1 z2 => by omega, fun z1 z2 => ?_⟩
        all_goals (first | (have hl2 : (setA (setI M 25 (shN S w t)) 19 t 0).2 13 t = 0 := hl; omega))
      · have e19 : (setA (setI M 25 (shN S w x)) 19 x 0).2 19 t = M.2 19 t := by simp [sA2, sI2, e]
        have k1 : ∀ a, a ≠ 2 → (mvS (setI S 15 (shN S w x)) x 0).2 a t = S.2 a t := fun a ha => mvS_n _ _ _ _ _ e ha
        exact TH_keep (hT t ht) (Nat.le_refl _) ⟨k1 1 (by decide), k1 3 (by decide), k1 4 (by decide), k1 5 (by decide), k1 6 (by decide), k1 7 (by decide)⟩ ⟨rfl, rfl, rfl, rfl, rfl, e19, rfl, rfl⟩ (fun q _ ho _ => ⟨ho, mvS_a _ _ _ _ 8 (by decide)⟩) (fun _ _ j d1 d2 => by omega)
    · intro q hq ho
      obtain ⟨t, d1, d2, d3, d4⟩ := hP q hq ho
      exact ⟨t, d1, (mvS_a _ _ _ _ 8 (by decide)).trans d2, d3, d4⟩
