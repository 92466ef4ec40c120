/-! which one goes: ways without books -/
theorem sh_cn {S R M : St} {n : Nat} {r p : Nat → Nat} {w k i ly : Nat} {occ : Nat → Prop} (h : SH S R M n r p w k i ly occ) : cn (fun t => M.2 13 t = 1) 16 = ly := by
  obtain ⟨-, -, hsc, -, hC, hT, -, -⟩ := h
  have c7 := hsc.2.2.2.2.2.2.1
  have g1 := hC 1 (by decide) (by decide)
  have g2 := hC 2 (by decide) (by decide)
  have o := cn_or (c := fun t => S.2 1 t = ((1 : Nat) : Int)) (d := fun t => S.2 1 t = ((2 : Nat) : Int)) (e := fun t => M.2 13 t = 1) (n := 16) (fun t ht => by have := (hT t ht).1; omega) (fun t _ a b => by omega)
  omega
theorem sh_some {S R M : St} {n : Nat} {r p : Nat → Nat} {w k i : Nat} (h : SH S R M n r p w k i k (fun q => q < k)) : ∃ t, t < 16 ∧ M.2 13 t = 1 := by
  obtain ⟨t, h1, -, h3, -⟩ := h.2.2.2.2.2.2.1 0 h.2.1.2.1 h.2.1.2.1
  exact ⟨t, h1, h3⟩
theorem setI_same (S : St) (k : Nat) : setI S k (S.1 k) = S := st_ext (fun j => by rw [sI1]; split <;> simp_all) (fun _ _ => rfl)
/-- what a choice gives -/
def CH (S R M : St) (n : Nat) (r p : Nat → Nat) (w k i : Nat) : Prop := ∃ (g : Nat) (Sx M1 : St) (h' : Int), g < 16 ∧ fX2_chooseGoing (S, R) = some ((g : Int), (setI Sx 14 h', R)) ∧ fX4_chosen M (i : Int) = some ((g : Int), M1) ∧ SH Sx R M1 n r p w k i k (fun q => q < k) ∧ M1.2 13 g = 1 ∧ ((w = 2 ∨ w = 3) → M1.2 17 g = 0) ∧ (0 ≤ h' ∧ h' < (k : Int)) ∧ ((w = 3 → h' = if M1.1 24 + 1 < (k : Int) then M1.1 24 + 1 else 0) ∧ (w ≠ 3 → h' = M1.1 24)) ∧ (∀ t, M1.2 13 t = M.2 13 t) ∧ (∀ t, Sx.2 1 t = S.2 1 t) ∧ Sx.1 17 = S.1 17 ∧ M1.1 27 = M.1 27 ∧ FR M M1
theorem ch_scan {S R M : St} {n : Nat} {r p : Nat → Nat} {w k i : Nat} (h : SH S R M n r p w k i k (fun q => q < k)) (hb : ¬ (w = 2 ∨ w = 3 ∨ w = 5 ∨ w = 6)) (l : Nat → Nat → Prop) [∀ a b, Decidable (l a b)] (hk : ∀ t, t < 16 → S.2 1 t = 1 → wr (keyV S R w t) = keyV S R w t) (hm : fX4_chosen M (i : Int) = some (amin (fun t => M.2 13 t ≠ 0) l 16, M)) (hl : ∀ t u, t < 16 → u < 16 → M.2 13 t = 1 → M.2 13 u = 1 → (keyV S R w t < keyV S R w u ↔ l t u)) : CH S R M n r p w k i := by
  obtain ⟨hR, ⟨h8, hk1, hk8, hin, hlyk⟩, hsc, ⟨mk, hmk, hmk2, hmk3, hmk4⟩, hC, hT, hP, hN⟩ := id h
  obtain ⟨c1, c2, c3, c4, c5, c6, c7, c8, c9, c10, c11, c12, c13, c14, c15, c16, c17, c18, c19⟩ := hsc
  have hnb : ¬ (w = 5 ∨ w = 6) := by omega
  have hlp : ∀ t, t < 16 → ((S.2 1 t = 1 ∧ ¬ (w = 2 ∧ mk.testBit t = true)) ↔ M.2 13 t ≠ 0) := fun t ht => by
    have a := (hT t ht).1
    have b := ((hT t ht).2.2.1 hnb).1
    constructor
    · intro q; omega
    · intro q; exact ⟨by omega, fun z => by omega⟩
  have hcf := c_firstOf (R := R) (fr := 1) c1 h8 hmk2 hmk (fun t ht => (TH_r (hT t ht)).1.1) wl_1 (fun q t ht hp => by
    have a := (hT t ht).1
    have := (hT t ht).2.2.2.1 (by omega)
    have hn3 := hR.2.2.1
    omega) hk _ rfl
  have he : amin (fun t => S.2 1 t = 1 ∧ ¬ (w = 2 ∧ mk.testBit t = true)) (fun t u => keyV S R w t < keyV S R w u) 16 = amin (fun t => M.2 13 t ≠ 0) l 16 := amin_congr (n := 16) hlp (fun t u ht hu a b => by
    have a1 := (hlp t ht).mp a
    have b1 := (hlp u hu).mp b
    have a2 := (TH_r (hT t ht)).2.2.2
    have b2 := (TH_r (hT u hu)).2.2.2
    exact hl t u ht hu (by omega) (by omega)) 16 (Nat.le_refl _)
  rw [he] at hcf
  obtain ⟨b1, b2, b3, b4⟩ := amin_b (fun t => M.2 13 t ≠ 0) l 16
  have hpos : 0 ≤ amin (fun t => M.2 13 t ≠ 0) l 16 := by
    by_cases q : amin (fun t => M.2 13 t ≠ 0) l 16 < 0
    · obtain ⟨t, ht, h1⟩ := sh_some h
      exact absurd (by omega) (b4 q t ht)
    · omega
  have hg3 := b3 hpos
  generalize amin (fun t => M.2 13 t ≠ 0) l 16 = v at *
  obtain ⟨g, rfl⟩ : ∃ g : Nat, v = (g : Int) := ⟨v.toNat, by omega⟩
  have hg16 : g < 16 := by omega
  have hgl : M.2 13 g = 1 := by
    have := (TH_r (hT g hg16)).2.2.2
    simp only [Int.toNat_natCast] at hg3
    omega
  rw [if_neg (by omega)] at hcf
  refine ⟨g, S, M, S.1 14, hg16, ?_, hm, h, hgl, fun q => by omega, ⟨c10, c11⟩, ⟨fun q => by omega, fun _ => c9.symm⟩, fun _ => rfl, fun _ => rfl, rfl, rfl, FR_rf M⟩
  rw [setI_same]
  have e2 : ¬ (w : Int) = 2 := by omega
  have e3 : ¬ (w : Int) = 3 := by omega
  have e5 : ¬ (w : Int) = 5 := by omega
  have e6 : ¬ (w : Int) = 6 := by omega
  simp only [fX2_chooseGoing, fX2_chooseGoing_j83, c1, wr_nat (show w < 2147483648 by omega), if_neg e2, if_neg e3, if_neg e5, if_neg e6, hcf, cls_s, ite_self]
theorem ch_0 {S R M : St} {n : Nat} {r p : Nat → Nat} {k i : Nat} (h : SH S R M n r p 0 k i k (fun q => q < k)) : CH S R M n r p 0 k i := by
  have hT := h.2.2.2.2.2.1
  have hn3 : i ≤ 300 := Nat.le_trans h.2.1.2.2.2.1 h.1.2.2.1
  have c2 := h.2.2.1.2.1
  refine ch_scan h (by omega) (fun t u => M.2 14 t < M.2 14 u) (fun t ht hp => ?_) ?_ (fun t u ht hu a b => ?_)
  · have a := (hT t ht).1
    have := (hT t ht).2.2.2.2.2.2.1 rfl (by omega)
    simp only [keyV, ↓reduceIte]
    exact wr_id (by omega)
  · have hm := m_oldest (Y := M) (fun t ht => (TH_r (hT t ht)).2.1) (fun t ht q => by
      have a := (TH_r (hT t ht)).2.2.2
      have := (hT t ht).2.2.2.2.2.2.1 rfl (by omega)
      exact wr_id (by omega))
    simp only [fX4_chosen, c2, show ((0 : Nat) : Int) = 0 from rfl, wl_0, ↓reduceIte, hm, cls_s]
  · have a1 := (hT t ht).2.2.2.2.2.2.1 rfl a
    have b1 := (hT u hu).2.2.2.2.2.2.1 rfl b
    simp only [keyV, ↓reduceIte]
    omega
theorem ch_1 {S R M : St} {n : Nat} {r p : Nat → Nat} {k i : Nat} (h : SH S R M n r p 1 k i k (fun q => q < k)) : CH S R M n r p 1 k i := by
  have hT := h.2.2.2.2.2.1
  have hn3 : i ≤ 300 := Nat.le_trans h.2.1.2.2.2.1 h.1.2.2.1
  have c2 := h.2.2.1.2.1
  obtain ⟨mk, -, -, -, hmk4⟩ := h.2.2.2.1
  refine ch_scan h (by omega) (fun t u => M.2 15 t < M.2 15 u) (fun t ht hp => ?_) ?_ (fun t u ht hu a b => ?_)
  · have a := (hT t ht).1
    have := (hT t ht).2.2.2.1 (by omega)
    simp only [keyV, Nat.reduceEqDiff, ↓reduceIte, or_self]
    exact wr_id (by omega)
  · have hm := m_resting (Y := M) (a := 0) (b := 0) wl_0 wl_0 (fun t ht => ⟨(TH_r (hT t ht)).2.1, (TH_r (hT t ht)).2.2.1.1, by rw [hmk4 (by decide) t ht]; exact wl_0⟩) (fun t ht q => by
      have a := (TH_r (hT t ht)).2.2.2
      have := (hT t ht).2.2.2.1 (by omega)
      exact wr_id (by omega))
    simp only [true_or, and_true] at hm
    simp only [fX4_chosen, c2, show ((1 : Nat) : Int) = 1 from rfl, wl_1, Int.one_ne_zero, ↓reduceIte, hm, cls_s]
  · have a1 := (hT t ht).2.2.2.1 a
    have b1 := (hT u hu).2.2.2.1 b
    simp only [keyV, Nat.reduceEqDiff, ↓reduceIte, or_self]
    omega
theorem ch_4 {S R M : St} {n : Nat} {r p : Nat → Nat} {k i : Nat} (h : SH S R M n r p 4 k i k (fun q => q < k)) : CH S R M n r p 4 k i := by
  have hT := h.2.2.2.2.2.1
  have hn3 : i ≤ 300 := Nat.le_trans h.2.1.2.2.2.1 h.1.2.2.1
  have c2 := h.2.2.1.2.1
  refine ch_scan h (by omega) (fun t u => M.2 16 t < M.2 16 u ∨ (M.2 16 t = M.2 16 u ∧ M.2 15 t < M.2 15 u)) (fun t ht hp => ?_) ?_ (fun t u ht hu a b => ?_)
  · have a := (hT t ht).1
    have := (hT t ht).2.2.2.1 (by omega)
    simp only [keyV, Nat.reduceEqDiff, ↓reduceIte]
    exact wr_id (by omega)
  · have hm := m_least_counts (Y := M) (fun t ht => (TH_r (hT t ht)).2.1) (fun t ht q => by
      have a := (TH_r (hT t ht)).2.2.2
      have := (hT t ht).2.2.2.1 (by omega)
      exact ⟨wr_id (by omega), wr_id (by omega)⟩)
    simp only [fX4_chosen, c2, show ((4 : Nat) : Int) = 4 from rfl, wl_4, hm, cls_s]
    simp
  · have a1 := (hT t ht).2.2.2.1 a
    have b1 := (hT u hu).2.2.2.1 b
    simp only [keyV, Nat.reduceEqDiff, ↓reduceIte]
    omega
theorem ch_7 {S R M : St} {n : Nat} {r p : Nat → Nat} {k i : Nat} (h : SH S R M n r p 7 k i k (fun q => q < k)) : CH S R M n r p 7 k i := by
  have hT := h.2.2.2.2.2.1
  have hn3 : i ≤ 300 := Nat.le_trans h.2.1.2.2.2.1 h.1.2.2.1
  have c2 := h.2.2.1.2.1
  refine ch_scan h (by omega) (fun t u => M.2 21 t < M.2 21 u ∨ (M.2 21 t = M.2 21 u ∧ M.2 15 t < M.2 15 u)) (fun t ht hp => ?_) ?_ (fun t u ht hu a b => ?_)
  · have a := (hT t ht).1
    have := (hT t ht).2.2.2.1 (by omega)
    simp only [keyV, Nat.reduceEqDiff, ↓reduceIte, or_self]
    exact wr_id (by omega)
  · have hm := m_least_credit (Y := M) (fun t ht => (TH_r (hT t ht)).2.1) (fun t ht q => by
      have a := (TH_r (hT t ht)).2.2.2
      have := (hT t ht).2.2.2.1 (by omega)
      exact ⟨wr_id (by omega), wr_id (by omega)⟩)
    simp only [fX4_chosen, c2, show ((7 : Nat) : Int) = 7 from rfl, wl_7, hm, cls_s]
    simp
  · have a1 := (hT t ht).2.2.2.1 a
    have b1 := (hT u hu).2.2.2.1 b
    simp only [keyV, Nat.reduceEqDiff, ↓reduceIte, or_self]
    omega
theorem ch_8 {S R M : St} {n : Nat} {r p : Nat → Nat} {k i : Nat} (h : SH S R M n r p 8 k i k (fun q => q < k)) (hi : i < n) (hx : M.2 13 (r i) = 0) : CH S R M n r p 8 k i := by
  have hT := h.2.2.2.2.2.1
  obtain ⟨r1, r2, r3, r4, r5⟩ := h.1
  have hNX := h.2.2.2.2.2.2.2 rfl
  have c2 := h.2.2.1.2.1
  have key : ∀ t, t < 16 → M.2 13 t = 1 → keyV S R 8 t = -(if nx r n t (i + 1) < n then ((nx r n t (i + 1) : Nat) : Int) else 300) ∧ nx r n t (i + 1) ≤ n := by
    intro t ht hl
    have a1 := (hT t ht).2.2.2.1 hl
    obtain ⟨e1, e2⟩ := (hT t ht).2.2.2.2.2.2.2.2 rfl hl
    obtain ⟨ℓ, hℓ⟩ : ∃ ℓ : Nat, M.2 15 t = (ℓ : Int) := ⟨(M.2 15 t).toNat, by omega⟩
    rw [hℓ] at e1 e2
    simp only [Int.toNat_natCast] at e1
    have hp := nx_p r n t (i + 1) (by omega)
    have hu : nx r n t (ℓ + 1) = nx r n t (i + 1) := by
      refine nx_uniq (by omega) hp.2.1 hp.2.2.1 (fun u h1 h2 => ?_)
      by_cases z : u < i
      · exact e2 u (by omega) z
      · by_cases z2 : u = i
        · subst z2
          intro q
          rw [q] at hx
          omega
        · exact hp.2.2.2 u (by omega) h2
    have hv := hNX ℓ (by omega)
    rw [e1, hu] at hv
    refine ⟨?_, hp.2.1⟩
    have hs4 : S.2 4 t = (ℓ : Int) := by omega
    simp only [keyV, Nat.reduceEqDiff, ↓reduceIte, or_self]
    rw [hs4]
    simp only [Int.toNat_natCast]
    rw [hv]
  refine ch_scan h (by omega) (fun t u => nx r n u (i + 1) < nx r n t (i + 1)) (fun t ht hp => ?_) ?_ (fun t u ht hu a b => ?_)
  · have a := (hT t ht).1
    obtain ⟨e, e2⟩ := key t ht (by omega)
    rw [e]
    refine wr_id ?_
    split <;> omega
  · have hm := m_latestAhead (Y := M) (r := r) (n := n) (i := i) r2 r3 (fun j hj => ⟨(r4 j hj).2.2, (r4 j hj).1⟩) hi (fun t ht => (TH_r (hT t ht)).2.1)
    simp only [fX4_chosen, c2, show ((8 : Nat) : Int) = 8 from rfl, wl_8, hm, cls_s]
    simp
  · obtain ⟨e1, e2⟩ := key t ht a
    obtain ⟨f1, f2⟩ := key u hu b
    rw [e1, f1]
    split <;> split <;> omega
