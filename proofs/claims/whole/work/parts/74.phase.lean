/-! phases and phase -/
def c32 (M : St) (t : Nat) : St := (M.1, fun a x => if a = 32 ∧ x < t then 0 else M.2 a x)
theorem c32_s (M : St) (t : Nat) : setA (c32 M t) 32 t 0 = c32 M (t + 1) := by
  refine st_ext (fun _ => rfl) (fun a x => ?_)
  rw [sA2]
  unfold c32
  simp only
  grind
theorem m_c32 {K : Int → Int → Int → Int → Int → St → Option (Int × St)} {v1 v2 v3 v4 v5 : Int} {M : St} : ∀ (d t f : Nat), t + d = 16 → d < f → fX4_phaseOf_l48 K f v1 v2 v3 v4 v5 (t : Int) (c32 M t) = fX4_phaseOf_j69 K v1 v2 v3 v4 v5 (c32 M 16) := by
  intro d
  induction d with
  | zero =>
    intro t f hs hf
    obtain ⟨f', rfl⟩ : ∃ f', f = f' + 1 := ⟨f - 1, by omega⟩
    have hsn : t = 16 := by omega
    subst hsn
    have e : wr 16 ≤ wr ((16 : Nat) : Int) := by decide
    unfold fX4_phaseOf_l48
    rw [if_pos e]
  | succ d ih =>
    intro t f hs hf
    obtain ⟨f', rfl⟩ : ∃ f', f = f' + 1 := ⟨f - 1, by omega⟩
    have e : ¬ wr 16 ≤ wr (t : Int) := by rw [wl_16, wr_nat (by omega)]; omega
    unfold fX4_phaseOf_l48
    rw [if_neg e, cb_0, bd_n (show t < 16 by omega), Int.toNat_natCast, c32_s, nm_q, nm_q, up1]
    exact ih (t + 1) f' (by omega) (by omega)
/-- the model's marks are the bits of D -/
def SN (M : St) (D : Nat) : Prop := D < 65536 ∧ ∀ t, t < 16 → M.2 32 t = if D.testBit t = true then 1 else 0
theorem m_j69 {K : Int → Int → Int → Int → Int → St → Option (Int × St)} {v1 v2 v3 : Int} {M : St} {n s D : Nat} {r : Nat → Nat} (hs : s < n) (hn3 : n ≤ 300) (hr : ∀ i, i < n → r i < 16 ∧ M.2 1 i = (r i : Int)) (hD : SN M D) : ∃ M', fX4_phaseOf_j69 K v1 v2 v3 ((cn (fun t => D.testBit t = true) 16 : Nat) : Int) (s : Int) M = K v1 v2 v3 ((cn (fun t => (D ||| 2 ^ (r s)).testBit t = true) 16 : Nat) : Int) ((s + 1 : Nat) : Int) M' ∧ SN M' (D ||| 2 ^ (r s)) ∧ FR M M' ∧ (∀ a, a ≠ 32 → M'.2 a = M.2 a) := by
  obtain ⟨a, b⟩ := hr s hs
  obtain ⟨d1, d2⟩ := hD
  have hs3 : s < 300 := by omega
  have e32 := d2 (r s) a
  refine ⟨setA M 32 (r s) 1, ?_, ⟨(or_bit d1 a).2, fun t ht => ?_⟩, ⟨fun _ _ => rfl, fun x t hx => by rw [sA2, if_neg (by omega)]⟩, fun x hx => funext fun t => by rw [sA2, if_neg hx]⟩
  · unfold fX4_phaseOf_j69 fX4_phaseOf_j91
    rw [bd_n hs3, Int.toNat_natCast, b, bd_n a, Int.toNat_natCast, e32, cn_or1 a]
    by_cases q : D.testBit (r s) = true
    · rw [if_pos q, if_neg w1, nm_q, bd_n hs3, cb_1, bd_n a, nm_q, nm_q, up1, if_pos q]
      rfl
    · rw [if_neg q, if_pos wl_0, nm_q, bd_n hs3, cb_1, bd_n a, nm_q, nm_q, up1, if_neg q, up1]
  · rw [sA2, if_pos rfl, orb_bit]
    by_cases z : t = r s
    · rw [if_pos z]; simp [z]
    · rw [if_neg z, d2 t ht]; simp [z]
theorem c_ph1 {R : St} {k i ph s D f x : Nat} (e : ¬ wr (i : Int) < wr (s : Int)) (hs3 : s < 300) (a : x < 16) (b : R.2 0 s = (x : Int)) (hD : D < 65536) : fX1_phaseAt_l8 (f + 1) (k : Int) (i : Int) (ph : Int) (D : Int) (s : Int) R = (if wr ((cn (fun t => (D ||| 2 ^ x).testBit t = true) 16 : Nat) : Int) ≤ wr (k : Int) then fX1_phaseAt_l8 f (k : Int) (i : Int) (ph : Int) ((D ||| 2 ^ x : Nat) : Int) ((s + 1 : Nat) : Int) R else fX1_phaseAt_l8 f (k : Int) (i : Int) ((ph + 1 : Nat) : Int) ((0 ||| 2 ^ x : Nat) : Int) ((s + 1 : Nat) : Int) R) := by
  obtain ⟨o1, o2⟩ := or_bit hD a
  obtain ⟨o3, -⟩ := or_bit (a := 0) (by decide) a
  have o3' : orI 0 (shlI 1 (x : Int)) = ((0 ||| 2 ^ x : Nat) : Int) := o3
  have hA : fX1_phaseAt_j43 (fX1_phaseAt_l8 f) (k : Int) (i : Int) (ph : Int) (D : Int) (s : Int) (shlI 1 (x : Int)) R = fX1_phaseAt_l8 f (k : Int) (i : Int) (ph : Int) ((D ||| 2 ^ x : Nat) : Int) ((s + 1 : Nat) : Int) R := by
    unfold fX1_phaseAt_j43
    rw [nm_q, nm_q, o1, up1]
  have hB : (nm ((ph : Int) + 1) fun x105 => nm 0 fun x106 => fX1_phaseAt_j43 (fX1_phaseAt_l8 f) (k : Int) (i : Int) x105 x106 (s : Int) (shlI 1 (x : Int)) R) = fX1_phaseAt_l8 f (k : Int) (i : Int) ((ph + 1 : Nat) : Int) ((0 ||| 2 ^ x : Nat) : Int) ((s + 1 : Nat) : Int) R := by
    rw [nm_q, nm_q]
    unfold fX1_phaseAt_j43
    rw [nm_q, nm_q, o3', up1, up1]
  rw [show fX1_phaseAt_l8 (f + 1) (k : Int) (i : Int) (ph : Int) (D : Int) (s : Int) R = (if wr (i : Int) < wr (s : Int) then (fX1_phaseAt_j56 (ph : Int) R) else (bd (s : Int) 300 (nm (shlI 1 (R.2 0 (Int.toNat (s : Int)))) fun x103 => clp (fJ6_bitCount_0f7a4 (orI (D : Int) x103)) fun r104 => if wr r104 ≤ wr (k : Int) then (fX1_phaseAt_j43 (fX1_phaseAt_l8 f) (k : Int) (i : Int) (ph : Int) (D : Int) (s : Int) x103 R) else (nm ((ph : Int) + 1) fun x105 => nm 0 fun x106 => fX1_phaseAt_j43 (fX1_phaseAt_l8 f) (k : Int) (i : Int) x105 x106 (s : Int) x103 R)))) from rfl, if_neg e, bd_n hs3, Int.toNat_natCast, b, nm_q, o1, e_bitCount o2, clp_s, hA, hB]
theorem m_ph1 {M : St} {k i ph s f x : Nat} {v4 : Int} (e : ¬ wr (i : Int) < wr (s : Int)) (ep : ¬ wr (ph : Int) < 0) (hs3 : s < 300) (a : x < 16) (b2 : M.2 1 s = (x : Int)) : fX4_phaseOf_l8 (f + 1) (k : Int) (i : Int) (ph : Int) v4 (s : Int) M = (if wr (M.2 32 x) = 0 then (if wr v4 = wr (k : Int) then (fX4_phaseOf_j39 (fX4_phaseOf_l8 f) (k : Int) (i : Int) (ph : Int) (s : Int) M) else (fX4_phaseOf_j69 (fX4_phaseOf_l8 f) (k : Int) (i : Int) (ph : Int) v4 (s : Int) M)) else (fX4_phaseOf_j69 (fX4_phaseOf_l8 f) (k : Int) (i : Int) (ph : Int) v4 (s : Int) M)) := by
  rw [show fX4_phaseOf_l8 (f + 1) (k : Int) (i : Int) (ph : Int) v4 (s : Int) M = (if wr (i : Int) < wr (s : Int) then (fX4_phaseOf_j113 (ph : Int) M) else (if wr (ph : Int) < 0 then (fX4_phaseOf_j39 (fX4_phaseOf_l8 f) (k : Int) (i : Int) (ph : Int) (s : Int) M) else (bd (s : Int) 300 (bd (M.2 1 (Int.toNat (s : Int))) 16 (if wr (M.2 32 (Int.toNat (M.2 1 (Int.toNat (s : Int))))) = 0 then (if wr v4 = wr (k : Int) then (fX4_phaseOf_j39 (fX4_phaseOf_l8 f) (k : Int) (i : Int) (ph : Int) (s : Int) M) else (fX4_phaseOf_j69 (fX4_phaseOf_l8 f) (k : Int) (i : Int) (ph : Int) v4 (s : Int) M)) else (fX4_phaseOf_j69 (fX4_phaseOf_l8 f) (k : Int) (i : Int) (ph : Int) v4 (s : Int) M)))))) from rfl, if_neg e, if_neg ep, bd_n hs3, Int.toNat_natCast, b2, bd_n a, Int.toNat_natCast]
theorem ph_loop {R : St} {n : Nat} {r : Nat → Nat} {k i : Nat} (hn3 : n ≤ 300) (hi : i < n) (hk : 1 ≤ k ∧ k ≤ 8) (hr : ∀ i, i < n → r i < 16 ∧ R.2 0 i = (r i : Int)) : ∀ (d s f f2 D ph : Nat) (M : St), s + d = i + 1 → 1 ≤ s → (∀ i, i < n → M.2 1 i = (r i : Int)) → SN M D → cn (fun t => D.testBit t = true) 16 ≤ k → ph ≤ s → d < f → d < f2 → ∃ (v : Nat) (M' : St), fX1_phaseAt_l8 f (k : Int) (i : Int) (ph : Int) (D : Int) (s : Int) R = some ((v : Int), R) ∧ fX4_phaseOf_l8 f2 (k : Int) (i : Int) (ph : Int) ((cn (fun t => D.testBit t = true) 16 : Nat) : Int) (s : Int) M = some ((v : Int), M') ∧ FR M M' := by
  intro d
  induction d with
  | zero =>
    intro s f f2 D ph M hs h1 hM hD hc hph hf hf2
    obtain ⟨f', rfl⟩ : ∃ f', f = f' + 1 := ⟨f - 1, by omega⟩
    obtain ⟨f2', rfl⟩ : ∃ f', f2 = f' + 1 := ⟨f2 - 1, by omega⟩
    have e : wr (i : Int) < wr (s : Int) := by rw [wr_nat (by omega), wr_nat (by omega)]; omega
    unfold fX1_phaseAt_l8 fX4_phaseOf_l8
    rw [if_pos e, if_pos e]
    exact ⟨ph, M, rfl, rfl, FR_rf M⟩
  | succ d ih =>
    intro s f f2 D ph M hs h1 hM hD hc hph hf hf2
    obtain ⟨f', rfl⟩ : ∃ f', f = f' + 1 := ⟨f - 1, by omega⟩
    obtain ⟨f2', rfl⟩ : ∃ f', f2 = f' + 1 := ⟨f2 - 1, by omega⟩
    have e : ¬ wr (i : Int) < wr (s : Int) := by rw [wr_nat (by omega), wr_nat (by omega)]; omega
    have ep : ¬ wr (ph : Int) < 0 := by rw [wr_nat (by omega)]; omega
    have hs3 : s < 300 := by omega
    obtain ⟨a, b⟩ := hr s (by omega)
    have b2 := hM s (by omega)
    obtain ⟨o1, o2⟩ := or_bit hD.1 a
    have hcn := cn_or1 (a := D) a
    have hle := cn_le (fun t => D.testBit t = true) 16
    have hmr : ∀ i, i < n → r i < 16 ∧ M.2 1 i = (r i : Int) := fun i hi => ⟨(hr i hi).1, hM i hi⟩
    have e32 := hD.2 (r s) a
    have eJ := c_ph1 (R := R) (k := k) (i := i) (ph := ph) (f := f') e hs3 a b hD.1
    rw [eJ]
    have eM := m_ph1 (k := k) (i := i) (f := f2') (v4 := ((cn (fun t => D.testBit t = true) 16 : Nat) : Int)) e ep hs3 a b2
    rw [eM]
    by_cases q : cn (fun t => (D ||| 2 ^ (r s)).testBit t = true) 16 ≤ k
    · have e1 : wr ((cn (fun t => (D ||| 2 ^ (r s)).testBit t = true) 16 : Nat) : Int) ≤ wr (k : Int) := by rw [wr_nat (by have := cn_le (fun t => (D ||| 2 ^ (r s)).testBit t = true) 16; omega), wr_nat (by omega)]; omega
      rw [if_pos e1]
      obtain ⟨M1, m1, m2, m3, m4⟩ := m_j69 (K := fX4_phaseOf_l8 f2') (v1 := (k : Int)) (v2 := (i : Int)) (v3 := (ph : Int)) (s := s) (by omega) hn3 hmr hD
      obtain ⟨v, M', t1, t2, t3⟩ := ih (s + 1) f' f2' (D ||| 2 ^ (r s)) ph M1 (by omega) (by omega) (fun i hi => by rw [m4 1 (by decide)]; exact hM i hi) m2 q (by omega) (by omega) (by omega)
      refine ⟨v, M', t1, ?_, FR_tr m3 t3⟩
      by_cases y : D.testBit (r s) = true
      · have e2 : ¬ wr (M.2 32 (r s)) = 0 := by rw [e32, if_pos y]; exact w1
        rw [if_neg e2, m1]
        exact t2
      · have e2 : wr (M.2 32 (r s)) = 0 := by rw [e32, if_neg y]; exact wl_0
        rw [if_neg y] at hcn
        have e3 : ¬ wr ((cn (fun t => D.testBit t = true) 16 : Nat) : Int) = wr (k : Int) := by rw [wr_nat (by omega), wr_nat (by omega)]; omega
        rw [if_pos e2, if_neg e3, m1]
        exact t2
    · have e1 : ¬ wr ((cn (fun t => (D ||| 2 ^ (r s)).testBit t = true) 16 : Nat) : Int) ≤ wr (k : Int) := by rw [wr_nat (by have := cn_le (fun t => (D ||| 2 ^ (r s)).testBit t = true) 16; omega), wr_nat (by omega)]; omega
      rw [if_neg e1]
      have y : ¬ D.testBit (r s) = true := fun y => by rw [if_pos y] at hcn; omega
      rw [if_neg y] at hcn
      have e2 : wr (M.2 32 (r s)) = 0 := by rw [e32, if_neg y]; exact wl_0
      have e3 : wr ((cn (fun t => D.testBit t = true) 16 : Nat) : Int) = wr (k : Int) := by rw [wr_nat (by omega), wr_nat (by omega)]; omega
      rw [if_pos e2, if_pos e3]
      have h0 : SN (c32 M 16) 0 := ⟨by decide, fun t ht => by
        show (if 32 = 32 ∧ t < 16 then 0 else M.2 32 t) = _
        rw [if_pos ⟨rfl, ht⟩]; simp⟩
      have hF0 : FR M (c32 M 16) := ⟨fun _ _ => rfl, fun x t hx => by
        show (if x = 32 ∧ t < 16 then 0 else M.2 x t) = _
        rw [if_neg (by omega)]⟩
      have hz : cn (fun t => (0 : Nat).testBit t = true) 16 = 0 := by decide
      obtain ⟨M1, m1, m2, m3, m4⟩ := m_j69 (K := fX4_phaseOf_l8 f2') (M := c32 M 16) (v1 := (k : Int)) (v2 := (i : Int)) (v3 := ((ph + 1 : Nat) : Int)) (s := s) (r := r) (n := n) (by omega) hn3 (fun i hi => ⟨(hr i hi).1, by rw [hF0.2 1 i (by decide)]; exact hM i hi⟩) h0
      have hc0 : cn (fun t => ((0 : Nat) ||| 2 ^ (r s)).testBit t = true) 16 ≤ k := by
        rw [cn_or1 a, hz]; simp; omega
      obtain ⟨v, M', t1, t2, t3⟩ := ih (s + 1) f' f2' (0 ||| 2 ^ (r s)) (ph + 1) M1 (by omega) (by omega) (fun i hi => by rw [m4 1 (by decide), hF0.2 1 i (by decide)]; exact hM i hi) m2 hc0 (by omega) (by omega) (by omega)
      refine ⟨v, M', t1, ?_, FR_tr hF0 (FR_tr m3 t3)⟩
      unfold fX4_phaseOf_j39
      simp only [nm_q]
      have hcl := m_c32 (K := fX4_phaseOf_l8 f2') (v1 := (k : Int)) (v2 := (i : Int)) (v3 := ((ph + 1 : Nat) : Int)) (v4 := 0) (v5 := (s : Int)) (M := M) 16 0 FU (by omega) (FU_gt (by omega))
      have ec0 : c32 M 0 = M := st_ext (fun _ => rfl) (fun x t => by unfold c32; simp)
      rw [ec0] at hcl
      rw [hz] at m1
      rw [up1]
      exact hcl.trans (m1.trans t2)
