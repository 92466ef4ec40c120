theorem bcI_nat {n : Nat} (h : n < 65536) : fJ6_bitCount_0f7a4 (n : Int) = some ((bcN n : Nat) : Int) := by
  have u1 : ushrI (n : Int) 1 = ((n / 2 : Nat) : Int) := ushr_nat (by omega) 1 1 (by decide)
  have a1 : andI ((n / 2 : Nat) : Int) 1431655765 = ((n / 2 &&& 1431655765 : Nat) : Int) := and_nat (b := 1431655765) (by omega)
  have l1 : n / 2 &&& 1431655765 ≤ n / 2 := Nat.and_le_left
  have e1 : (n : Int) - ((n / 2 &&& 1431655765 : Nat) : Int) = ((n - (n / 2 &&& 1431655765) : Nat) : Int) := by omega
  unfold fJ6_bitCount_0f7a4
  simp only [nm]
  rw [u1, a1, e1]
  obtain ⟨x1, hx1, g1⟩ : ∃ x1, x1 = n - (n / 2 &&& 1431655765) ∧ x1 < 65536 := ⟨_, rfl, by omega⟩
  rw [← hx1]
  have u2 : ushrI (x1 : Int) 2 = ((x1 / 4 : Nat) : Int) := ushr_nat (by omega) 2 2 (by decide)
  have a2 : andI (x1 : Int) 858993459 = ((x1 &&& 858993459 : Nat) : Int) := and_nat (b := 858993459) (by omega)
  have a3 : andI ((x1 / 4 : Nat) : Int) 858993459 = ((x1 / 4 &&& 858993459 : Nat) : Int) := and_nat (b := 858993459) (by omega)
  rw [u2, a2, a3]
  have l2 : x1 &&& 858993459 ≤ x1 := Nat.and_le_left
  have l3 : x1 / 4 &&& 858993459 ≤ x1 / 4 := Nat.and_le_left
  have e2 : ((x1 &&& 858993459 : Nat) : Int) + ((x1 / 4 &&& 858993459 : Nat) : Int) = (((x1 &&& 858993459) + (x1 / 4 &&& 858993459) : Nat) : Int) := by omega
  rw [e2]
  obtain ⟨x2, hx2, g2⟩ : ∃ x2, x2 = (x1 &&& 858993459) + (x1 / 4 &&& 858993459) ∧ x2 < 131072 := ⟨_, rfl, by omega⟩
  rw [← hx2]
  have u3 : ushrI (x2 : Int) 4 = ((x2 / 16 : Nat) : Int) := ushr_nat (by omega) 4 4 (by decide)
  rw [u3]
  have e3 : (x2 : Int) + ((x2 / 16 : Nat) : Int) = ((x2 + x2 / 16 : Nat) : Int) := by omega
  rw [e3]
  have a4 : andI ((x2 + x2 / 16 : Nat) : Int) 252645135 = ((x2 + x2 / 16 &&& 252645135 : Nat) : Int) := and_nat (b := 252645135) (by omega)
  rw [a4]
  have l4 : x2 + x2 / 16 &&& 252645135 ≤ x2 + x2 / 16 := Nat.and_le_left
  obtain ⟨x3, hx3, g3⟩ : ∃ x3, x3 = x2 + x2 / 16 &&& 252645135 ∧ x3 < 262144 := ⟨_, rfl, by omega⟩
  rw [← hx3]
  have u4 : ushrI (x3 : Int) 8 = ((x3 / 256 : Nat) : Int) := ushr_nat (by omega) 8 8 (by decide)
  rw [u4]
  have e4 : (x3 : Int) + ((x3 / 256 : Nat) : Int) = ((x3 + x3 / 256 : Nat) : Int) := by omega
  rw [e4]
  obtain ⟨x4, hx4, g4⟩ : ∃ x4, x4 = x3 + x3 / 256 ∧ x4 < 524288 := ⟨_, rfl, by omega⟩
  rw [← hx4]
  have u5 : ushrI (x4 : Int) 16 = ((x4 / 65536 : Nat) : Int) := ushr_nat (by omega) 16 16 (by decide)
  rw [u5]
  have e5 : (x4 : Int) + ((x4 / 65536 : Nat) : Int) = ((x4 + x4 / 65536 : Nat) : Int) := by omega
  rw [e5]
  have a5 : andI ((x4 + x4 / 65536 : Nat) : Int) 63 = ((x4 + x4 / 65536 &&& 63 : Nat) : Int) := and_nat (b := 63) (by omega)
  rw [a5, hx4, hx3, hx2, hx1]
  rfl
theorem popN_cn (n : Nat) : popN n = cn (fun t => n.testBit t = true) 16 := by
  have h : ∀ t, (if n.testBit t = true then 1 else 0) = n / 2 ^ t % 2 := by
    intro t
    rw [Nat.testBit_eq_decide_div_mod_eq]
    have := Nat.mod_two_eq_zero_or_one (n / 2 ^ t)
    rcases this with e | e <;> simp [e]
  unfold popN
  simp only [cn, h]
  simp only [Nat.pow_zero, Nat.div_one, Nat.zero_add]
theorem e_bitCount {n : Nat} (h : n < 65536) : fJ6_bitCount_0f7a4 (n : Int) = some ((cn (fun t => n.testBit t = true) 16 : Nat) : Int) := by
  rw [bcI_nat h, chkB_at chkB_ok h, popN_cn]
