/-! the judge's choice by keys -/
def keyV (S R : St) (w t : Nat) : Int := if w = 0 then S.2 3 t else if w = 4 then S.2 5 t * 300 + S.2 4 t else if w = 5 ∨ w = 6 then (if S.2 1 t = 2 then S.2 4 t else S.2 3 t) else if w = 7 then S.2 6 t * 300 + S.2 4 t else if w = 8 then -(R.2 2 (S.2 4 t).toNat) else S.2 4 t
theorem c_keyOf {S R : St} {w t : Nat} (ht : t < 16) (hw : S.1 9 = (w : Int)) (h8 : w ≤ 8) (hp : wr (S.2 1 t) = S.2 1 t) (hb : w = 8 → 0 ≤ S.2 4 t ∧ S.2 4 t < 300) : fX2_keyOf (S, R) (t : Int) = some (keyV S R w t, (S, R)) := by
  have hws : w = 0 ∨ w = 1 ∨ w = 2 ∨ w = 3 ∨ w = 4 ∨ w = 5 ∨ w = 6 ∨ w = 7 ∨ w = 8 := by omega
  simp only [fX2_keyOf, fX2_keyOf_j141, fX2_keyOf_j106, fX2_keyOf_j81, bd_n ht, Int.toNat_natCast, hw, wr_nat (show w < 2147483648 by omega), hp, wl_2]
  rcases hws with q | q | q | q | q | q | q | q | q <;> subst q
  · simp [keyV]
  · simp [keyV]
  · simp [keyV]
  · simp [keyV]
  · simp [keyV]
  · simp only [keyV]; by_cases h : S.2 1 t = 2 <;> simp [h]
  · simp only [keyV]; by_cases h : S.2 1 t = 2 <;> simp [h]
  · simp [keyV]
  · simp only [bd_pos (show 0 ≤ S.2 4 t ∧ S.2 4 t < ((300 : Nat) : Int) from hb rfl)]
    simp [keyV]
theorem c_firstOf {S R : St} {w mk : Nat} {fr : Int} (hw : S.1 9 = (w : Int)) (h8 : w ≤ 8) (hm : S.1 12 = (mk : Int)) (hmk : mk < 65536) (hp : ∀ t, t < 16 → wr (S.2 1 t) = S.2 1 t) (hf : wr fr = fr) (hb : w = 8 → ∀ t, t < 16 → S.2 1 t = fr → 0 ≤ S.2 4 t ∧ S.2 4 t < 300) (hk : ∀ t, t < 16 → S.2 1 t = fr → wr (keyV S R w t) = keyV S R w t) (key : Nat → Int) (hkey : key = keyV S R w) : fX2_firstOf (S, R) fr = some (if amin (fun t => S.2 1 t = fr ∧ ¬ (w = 2 ∧ mk.testBit t = true)) (fun t u => key t < key u) 16 < 0 then 0 else amin (fun t => S.2 1 t = fr ∧ ¬ (w = 2 ∧ mk.testBit t = true)) (fun t u => key t < key u) 16, (S, R)) := by
  subst hkey
  refine scan_gen (fun f v t => fX2_firstOf_l10 f fr (if v < 0 then 0 else v) (if v < 0 then 0 else keyV S R w v.toNat) (if v < 0 then 0 else 1) (t : Int) (S, R)) _ _ (fun v => some (if v < 0 then 0 else v, (S, R))) (fun f v b1 b2 b3 => ?_) (fun f v t ht b1 b2 b3 => ?_)
  · simp only [fX2_firstOf_l10, fX2_firstOf_j94, wl_16, wr_nat (show 16 < 2147483648 by decide)]
    rw [if_pos (by decide)]
  · have hkp : wr (S.2 1 t) = S.2 1 t := hp t ht
    have hno : ¬ (S.2 1 t = fr ∧ ¬ (w = 2 ∧ mk.testBit t = true)) → (if (S.2 1 t = fr ∧ ¬ (w = 2 ∧ mk.testBit t = true)) ∧ (v < 0 ∨ keyV S R w t < keyV S R w v.toNat) then (t : Int) else v) = v := fun z => if_neg (fun q => z q.1)
    have hyes : (S.2 1 t = fr ∧ ¬ (w = 2 ∧ mk.testBit t = true)) → fX2_firstOf_j42 (fX2_firstOf_l10 f) fr (if v < 0 then 0 else v) (if v < 0 then 0 else keyV S R w v.toNat) (if v < 0 then 0 else 1) (t : Int) 0 (S, R) = fX2_firstOf_l10 f fr (if (if (S.2 1 t = fr ∧ ¬ (w = 2 ∧ mk.testBit t = true)) ∧ (v < 0 ∨ keyV S R w t < keyV S R w v.toNat) then (t : Int) else v) < 0 then 0 else (if (S.2 1 t = fr ∧ ¬ (w = 2 ∧ mk.testBit t = true)) ∧ (v < 0 ∨ keyV S R w t < keyV S R w v.toNat) then (t : Int) else v)) (if (if (S.2 1 t = fr ∧ ¬ (w = 2 ∧ mk.testBit t = true)) ∧ (v < 0 ∨ keyV S R w t < keyV S R w v.toNat) then (t : Int) else v) < 0 then 0 else keyV S R w (if (S.2 1 t = fr ∧ ¬ (w = 2 ∧ mk.testBit t = true)) ∧ (v < 0 ∨ keyV S R w t < keyV S R w v.toNat) then (t : Int) else v).toNat) (if (if (S.2 1 t = fr ∧ ¬ (w = 2 ∧ mk.testBit t = true)) ∧ (v < 0 ∨ keyV S R w t < keyV S R w v.toNat) then (t : Int) else v) < 0 then 0 else 1) ((t + 1 : Nat) : Int) (S, R) := by
      intro hc
      have kt := hk t ht hc.1
      simp only [fX2_firstOf_j42, fX2_firstOf_j79, fX2_firstOf_j88, nm, bd_n ht, Int.toNat_natCast, hkp, hf, if_pos hc.1, wl_0, ↓reduceIte, c_keyOf (R := R) ht hw h8 hkp (fun q => hb q t ht hc.1), cls_s, kt, up1]
      by_cases hv : v < 0
      · have e : (if (S.2 1 t = fr ∧ ¬ (w = 2 ∧ mk.testBit t = true)) ∧ (v < 0 ∨ keyV S R w t < keyV S R w v.toNat) then (t : Int) else v) = (t : Int) := if_pos ⟨hc, Or.inl hv⟩
        rw [e]
        simp only [if_pos hv, wl_0, ↓reduceIte, if_neg (show ¬ (t : Int) < 0 by omega), Int.toNat_natCast]
      · have kv := hk v.toNat (by omega) (b3 (by omega)).1
        simp only [if_neg hv, wl_1, Int.one_ne_zero, ↓reduceIte, kv]
        by_cases hl : keyV S R w v.toNat ≤ keyV S R w t
        · have e : (if (S.2 1 t = fr ∧ ¬ (w = 2 ∧ mk.testBit t = true)) ∧ (v < 0 ∨ keyV S R w t < keyV S R w v.toNat) then (t : Int) else v) = v := if_neg (by rintro ⟨-, q | q⟩ <;> omega)
          rw [e, if_pos hl]
          simp only [if_neg hv]
        · have e : (if (S.2 1 t = fr ∧ ¬ (w = 2 ∧ mk.testBit t = true)) ∧ (v < 0 ∨ keyV S R w t < keyV S R w v.toNat) then (t : Int) else v) = (t : Int) := if_pos ⟨hc, Or.inr (by omega)⟩
          rw [e, if_neg hl]
          simp only [if_neg (show ¬ (t : Int) < 0 by omega), Int.toNat_natCast]
    have hnp : ∀ s0 : Int, ¬ S.2 1 t = fr → fX2_firstOf_j42 (fX2_firstOf_l10 f) fr (if v < 0 then 0 else v) (if v < 0 then 0 else keyV S R w v.toNat) (if v < 0 then 0 else 1) (t : Int) s0 (S, R) = fX2_firstOf_l10 f fr (if v < 0 then 0 else v) (if v < 0 then 0 else keyV S R w v.toNat) (if v < 0 then 0 else 1) ((t + 1 : Nat) : Int) (S, R) := fun s0 z => by
      simp only [fX2_firstOf_j42, fX2_firstOf_j88, nm, bd_n ht, Int.toNat_natCast, hkp, hf, if_neg z, up1]
    have hkept : fX2_firstOf_j42 (fX2_firstOf_l10 f) fr (if v < 0 then 0 else v) (if v < 0 then 0 else keyV S R w v.toNat) (if v < 0 then 0 else 1) (t : Int) 1 (S, R) = fX2_firstOf_l10 f fr (if v < 0 then 0 else v) (if v < 0 then 0 else keyV S R w v.toNat) (if v < 0 then 0 else 1) ((t + 1 : Nat) : Int) (S, R) := by
      simp only [fX2_firstOf_j42, fX2_firstOf_j88, nm, bd_n ht, Int.toNat_natCast, hkp, hf, wl_1, Int.one_ne_zero, ↓reduceIte, up1, ite_self]
    have hbit := wr_bit (a := mk) (t := t) (by omega) (by omega)
    simp only [fX2_firstOf_l10, fX2_firstOf_j41, wl_16, wl_2, wr_s ht, hw, hm, wr_nat (show w < 2147483648 by omega)]
    rw [if_neg (by omega)]
    by_cases hc : S.2 1 t = fr ∧ ¬ (w = 2 ∧ mk.testBit t = true)
    · by_cases h2 : w = 2
      · have hbt : mk.testBit t = false := by
          cases hz : mk.testBit t
          · rfl
          · exact absurd ⟨h2, hz⟩ hc.2
        rw [if_pos (by omega), if_pos (hbit.mpr hbt)]
        exact hyes hc
      · rw [if_neg (by omega)]
        exact hyes hc
    · rw [hno hc]
      by_cases hpt : S.2 1 t = fr
      · have h2 : w = 2 ∧ mk.testBit t = true := Decidable.byContradiction (fun z => hc ⟨hpt, z⟩)
        have h2i : (w : Int) = 2 := by omega
        rw [if_pos h2i, if_neg (fun z => by rw [hbit.mp z] at h2; cases h2.2)]
        exact hkept
      · by_cases h2 : (w : Int) = 2
        · rw [if_pos h2]
          split
          · exact hnp 0 hpt
          · exact hnp 1 hpt
        · rw [if_neg h2]
          exact hnp 0 hpt
