/-! TWOFOLD and BALANCE: what goes, and the books -/
theorem evict_rel {S R M : St} {n : Nat} {r p : Nat → Nat} {w k i ly : Nat} {occ : Nat → Prop} {e : Nat} (h : SH S R M n r p w k i ly occ) (hb : w = 5 ∨ w = 6) (he : e < 16) (hp : S.2 1 e = 3 ∨ S.2 1 e = 4) : SH (mvS S e 0) R (setA M 19 e 0) n r p w k i ly occ ∧ (∀ j : Nat, 1 ≤ j → (mvS S e 0).2 2 j = S.2 2 j - (if (j : Int) = S.2 1 e then 1 else 0)) := by
  obtain ⟨hR, ⟨h8, hk1, hk8, hin, hlyk⟩, hsc, ⟨mk, hmk, hmk2, hmk3, hmk4⟩, hC, hT, hP, hN⟩ := h
  obtain ⟨c1, c2, c3, c4, c5, c6, c7, c8, c9, c10, c11, c12, c13, c14, c15, c16, c17, c18, c19⟩ := hsc
  have i2 : ∀ j : Nat, 1 ≤ j → (mvS S e 0).2 2 j = S.2 2 j - (if (j : Int) = S.2 1 e then 1 else 0) := fun j hj => by
    have e3 : (mvS S e 0).2 2 j = S.2 2 j - (if j = (S.2 1 e).toNat then 1 else 0) + (if j = 0 then 1 else 0) := rfl
    rw [e3, if_neg (show ¬ j = 0 by omega)]
    by_cases q : (j : Int) = S.2 1 e
    · rw [if_pos q, if_pos (by omega)]; omega
    · rw [if_neg q, if_neg (by omega)]; omega
  have he0 := hT e he
  have hl : M.2 13 e = 0 := by have := he0.1; omega
  have hFR : FR M (setA M 19 e 0) := ⟨fun _ _ => rfl, fun a t ha => by simp only [sA2]; rw [if_neg (by omega)]⟩
  have hCn := mv_cnt (to := 0) hC he (by decide) (by omega)
  refine ⟨⟨RR_keep hR hFR, ⟨h8, hk1, hk8, hin, hlyk⟩, ⟨c1, c2, c3, c4, c5, c6, ?_, c8, c9, c10, c11, c12, c13, c14, c15, c16, c17, ?_, ?_⟩, ⟨mk, hmk, hmk2, hmk3, hmk4⟩, hCn, fun t ht => ?_, ?_, hN⟩, i2⟩
  · rw [i2 1 (by decide), i2 2 (by decide), if_neg (by omega), if_neg (by omega)]; omega
  · rw [i2 3 (by decide)]; split <;> omega
  · rw [i2 4 (by decide)]; split <;> omega
  · by_cases q : t = e
    · subst q
      obtain ⟨a1, a2, a3, a4, a5, a6, a7, a8, a9⟩ := he0
      have q1 : (mvS S t 0).2 1 t = 0 := (mvS_x S t 0).1
      have e19 : (setA M 19 t 0).2 19 t = 0 := by simp [sA2]
      have hnl : ∀ {A : Prop}, (setA M 19 t 0).2 13 t = 1 → A := fun z => by
        have : (setA M 19 t 0).2 13 t = 0 := hl
        omega
      unfold TH
      rw [e19, q1]
      exact ⟨Or.inr ⟨hl, Or.inl rfl⟩, fun _ => rfl, fun z => absurd hb z, fun z => hnl z, fun z => hnl z, a6, fun _ z => hnl z, fun _ z => by omega, fun _ z => hnl z⟩
    · have e19 : (setA M 19 e 0).2 19 t = M.2 19 t := by simp [sA2, q]
      have k1 : ∀ a, a ≠ 2 → (mvS S e 0).2 a t = S.2 a t := fun a ha => mvS_n _ _ _ _ _ q ha
      exact TH_keep (hT t ht) (Nat.le_refl _) ⟨k1 1 (by decide), k1 3 (by decide), k1 4 (by decide), k1 5 (by decide), k1 6 (by decide), k1 7 (by decide)⟩ ⟨rfl, rfl, rfl, rfl, rfl, e19, rfl, rfl⟩ (fun q _ ho _ => ⟨ho, mvS_a _ _ _ _ 8 (by decide)⟩) (fun _ _ j d1 d2 => by omega)
  · intro q hq ho
    obtain ⟨t, d1, d2, d3, d4⟩ := hP q hq ho
    exact ⟨t, d1, (mvS_a _ _ _ _ 8 (by decide)).trans d2, d3, d4⟩
theorem remB_rel {S R M M3 : St} {n : Nat} {r p : Nat → Nat} {w k i : Nat} {g bk : Nat} (h : SH S R M n r p w k i k (fun q => q < k)) (hb : w = 5 ∨ w = 6) (hg : g < 16) (hgl : M.2 13 g = 1) (hbk : bk = 0 ∨ ((bk = 3 ∨ bk = 4) ∧ S.2 2 bk < (k : Int))) (hM1 : ∀ j, M3.1 j = M.1 j) (hM2 : ∀ a t, a ≠ 19 → a ≠ 20 → M3.2 a t = M.2 a t) (hM19 : ∀ t, M3.2 19 t = if t = g then (bk : Int) else M.2 19 t) (hM20 : ∀ t, M3.2 20 t = if t = g ∧ bk ≠ 0 then (i : Int) else M.2 20 t) : ∃ spot : Nat, spot < k ∧ S.2 7 g = (spot : Int) ∧ M3.2 18 g = (spot : Int) ∧ SH (mvS S g bk) R (lvM M3 g (M.1 24) (M.1 26)) n r p w k i (k - 1) (fun q => q ≠ spot) := by
  obtain ⟨hR, ⟨h8, hk1, hk8, hin, hlyk⟩, hsc, ⟨mk, hmk, hmk2, hmk3, hmk4⟩, hC, hT, hP, hN⟩ := h
  obtain ⟨c1, c2, c3, c4, c5, c6, c7, c8, c9, c10, c11, c12, c13, c14, c15, c16, c17, c18, c19⟩ := hsc
  have hg0 := hT g hg
  obtain ⟨spot, s1, s2, s3, s4⟩ := hg0.2.2.2.2.1 hgl
  have hS1 : S.2 1 g = 1 ∨ S.2 1 g = 2 := by have := hg0.1; omega
  have n2 : ∀ t, t ≠ g → ∀ a, (lvM M3 g (M.1 24) (M.1 26)).2 a t = M.2 a t := fun t ht a => by
    rw [lvM_2, if_neg ht]
    by_cases z : a = 19
    · subst z; rw [hM19, if_neg ht]
    · by_cases z2 : a = 20
      · subst z2; rw [hM20, if_neg (fun q => ht q.1)]
      · exact hM2 a t z z2
  have hFR : FR M (lvM M3 g (M.1 24) (M.1 26)) := ⟨fun j hj => by rw [lvM_1, if_neg (by omega), if_neg (by omega), if_neg (by omega), if_neg (by omega)]; exact hM1 j, fun a t ha => by
    rw [lvM_2]
    split
    · rw [if_neg (by omega), if_neg (by omega)]; exact hM2 a t (by omega) (by omega)
    · exact hM2 a t (by omega) (by omega)⟩
  have n1 : ∀ t, t ≠ g → ∀ a, a ≠ 2 → (mvS S g bk).2 a t = S.2 a t := fun t ht a ha => mvS_n _ _ _ _ _ ht ha
  have n8 : ∀ q, (mvS S g bk).2 8 q = S.2 8 q := fun q => mvS_a _ _ _ _ 8 (by decide)
  have m1 : ∀ j, j ≠ 24 → j ≠ 22 → j ≠ 26 → j ≠ 28 → (lvM M3 g (M.1 24) (M.1 26)).1 j = M.1 j := fun j a b c d => by rw [lvM_1, if_neg a, if_neg b, if_neg c, if_neg d]; exact hM1 j
  have g13 : (lvM M3 g (M.1 24) (M.1 26)).2 13 g = 0 := by rw [lvM_2]; simp
  have g16 : (lvM M3 g (M.1 24) (M.1 26)).2 16 g = 0 := by rw [lvM_2]; simp
  have g17 : (lvM M3 g (M.1 24) (M.1 26)).2 17 g = 0 := by rw [lvM_2]; simp
  have g18 : (lvM M3 g (M.1 24) (M.1 26)).2 18 g = -1 := by rw [lvM_2]; simp
  have g21 : (lvM M3 g (M.1 24) (M.1 26)).2 21 g = 0 := by rw [lvM_2]; simp
  have g19 : (lvM M3 g (M.1 24) (M.1 26)).2 19 g = (bk : Int) := by rw [lvM_2]; simp [hM19]
  have g20 : bk ≠ 0 → (lvM M3 g (M.1 24) (M.1 26)).2 20 g = (i : Int) := fun z => by rw [lvM_2]; simp [hM20, z]
  have hCn := mv_cnt (to := bk) hC hg (by omega) (by omega)
  have i2 : ∀ j : Nat, 1 ≤ j → (mvS S g bk).2 2 j = S.2 2 j - (if (j : Int) = S.2 1 g then 1 else 0) + (if j = bk then 1 else 0) := fun j hj => by
    have e3 : (mvS S g bk).2 2 j = S.2 2 j - (if j = (S.2 1 g).toNat then 1 else 0) + (if j = bk then 1 else 0) := rfl
    rw [e3]
    by_cases q : (j : Int) = S.2 1 g
    · rw [if_pos q, if_pos (by omega)]
    · rw [if_neg q, if_neg (by omega)]
  refine ⟨spot, s1, (hg0.2.2.2.1 hgl).2.2.2.2.2.2.2.2.2.trans s3, (hM2 18 g (by decide) (by decide)).trans s3, RR_keep hR hFR, ⟨h8, hk1, hk8, hin, by omega⟩, ?_, ?_, hCn, ?_, ?_, hN⟩
  · have d3 : (lvM M3 g (M.1 24) (M.1 26)).1 24 = M.1 24 := by rw [lvM_1]; simp
    have d4 : (lvM M3 g (M.1 24) (M.1 26)).1 26 = M.1 26 := by rw [lvM_1]; simp
    have d5 : (lvM M3 g (M.1 24) (M.1 26)).1 22 = ((k - 1 : Nat) : Int) := by rw [lvM_1]; simp; rw [hM1]; omega
    have s12 : (mvS S g bk).2 2 1 + (mvS S g bk).2 2 2 = ((k - 1 : Nat) : Int) := by
      rw [i2 1 (by decide), i2 2 (by decide), if_neg (show ¬ 1 = bk by omega), if_neg (show ¬ 2 = bk by omega)]
      rcases hS1 with q | q
      · rw [if_pos (by omega), if_neg (by omega)]; omega
      · rw [if_neg (by omega), if_pos (by omega)]; omega
    have s3' : (mvS S g bk).2 2 3 ≤ (k : Int) := by
      rw [i2 3 (by decide), if_neg (by omega)]
      by_cases q : 3 = bk
      · rw [if_pos q]; rw [← q] at hbk; omega
      · rw [if_neg q]; omega
    have s4' : (mvS S g bk).2 2 4 ≤ (k : Int) := by
      rw [i2 4 (by decide), if_neg (by omega)]
      by_cases q : 4 = bk
      · rw [if_pos q]; rw [← q] at hbk; omega
      · rw [if_neg q]; omega
    unfold SC
    rw [d3, d4, d5, m1 11 (by decide) (by decide) (by decide) (by decide), m1 12 (by decide) (by decide) (by decide) (by decide), m1 23 (by decide) (by decide) (by decide) (by decide), m1 25 (by decide) (by decide) (by decide) (by decide)]
    exact ⟨c1, c2, c3, c4, c5, rfl, s12, c8, c9, c10, c11, c12, c13, c14, c15, c16, c17, s3', s4'⟩
  · refine ⟨mk, hmk, hmk2, fun hw t ht => by omega, fun hw t ht => ?_⟩
    by_cases e : t = g
    · subst e; exact g17
    · rw [n2 t e 17]; exact hmk4 hw t ht
  · intro t ht
    by_cases e : t = g
    · subst e
      obtain ⟨q1, q3⟩ := mvS_x S t bk
      have hnl : ∀ {A : Prop}, (lvM M3 t (M.1 24) (M.1 26)).2 13 t = 1 → A := fun z => by omega
      unfold TH
      rw [q1, q3, g16, g18, g19, g21]
      refine ⟨Or.inr ⟨g13, by omega⟩, fun _ => rfl, fun q => absurd hb q, fun q => hnl q, fun q => hnl q, fun _ => ⟨rfl, rfl, rfl⟩, fun _ q => hnl q, fun _ q => ?_, fun _ q => hnl q⟩
      rw [g20 (by omega)]
      exact ⟨c5, by omega, by omega⟩
    · refine TH_keep (hT t ht) (Nat.le_refl _) ⟨n1 t e 1 (by decide), n1 t e 3 (by decide), n1 t e 4 (by decide), n1 t e 5 (by decide), n1 t e 6 (by decide), n1 t e 7 (by decide)⟩ ⟨n2 t e 13, n2 t e 14, n2 t e 15, n2 t e 16, n2 t e 18, n2 t e 19, n2 t e 20, n2 t e 21⟩ (fun q hq _ h8q => ⟨fun z => ?_, n8 q⟩) (fun _ _ j d1 d2 => by omega)
      rw [z, s4] at h8q
      omega
  · intro q hq ho
    obtain ⟨t, d1, d2, d3, d4⟩ := hP q hq hq
    have e : t ≠ g := fun z => by rw [z, s3] at d4; omega
    exact ⟨t, d1, (n8 q).trans d2, (n2 t e 13).trans d3, (n2 t e 18).trans d4⟩
