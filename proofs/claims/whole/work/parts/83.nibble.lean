/-! choices kept in longs, four bits each -/
theorem nb_sh : ∀ m : Fin 16, ((iz ((m.val * 4 : Nat) : Int)).toInt64 &&& 63).toBitVec.smod 64 = BitVec.ofNat 64 (4 * m.val) := by decide +kernel
theorem nb_c : ∀ c : Fin 16, (iz ((c.val : Nat) : Int)).toInt64.toBitVec = BitVec.ofNat 64 c.val := by decide +kernel
theorem nb_15 : ∀ b : Fin 32, (15 : Int32).toBitVec.getLsbD b.val = decide (b.val < 4) := by decide +kernel
theorem nb_L15 : ∀ b : Fin 64, (15 : Int64).toBitVec.getLsbD b.val = decide (b.val < 4) := by decide +kernel
theorem nb_m1 : ∀ b : Fin 64, (-1 : Int64).toBitVec.getLsbD b.val = true := by decide +kernel
theorem nb_c4 : ∀ c : Fin 16, ∀ b : Fin 64, 4 ≤ b.val → (BitVec.ofNat 64 c.val).getLsbD b.val = false := by decide +kernel
def kpv (v : Int) (m c : Nat) : Int := ((((lz v) &&& (((15) <<< ((iz ((m * 4 : Nat) : Int)).toInt64 &&& 63)) ^^^ (-1))) ||| ((iz (c : Int)).toInt64 <<< ((iz ((m * 4 : Nat) : Int)).toInt64 &&& 63)))).toInt
def nbv (v : Int) (m : Nat) : Int := andI (l2iI ((lz v) >>> ((iz ((m * 4 : Nat) : Int)).toInt64 &&& 63))) 15
theorem nb_n (m : Nat) (hm : m < 16) : (BitVec.ofNat 64 (4 * m)).toNat = 4 * m := by
  rw [BitVec.toNat_ofNat]
  omega
theorem nb_b {x : Int64} {m : Nat} (hm : m < 16) (b : Nat) (hb : b < 32) : ((x >>> ((iz ((m * 4 : Nat) : Int)).toInt64 &&& 63)).toInt32 &&& 15).toBitVec.getLsbD b = (decide (b < 4) && x.toBitVec.getLsbD (4 * m + b)) := by
  have e : (x >>> ((iz ((m * 4 : Nat) : Int)).toInt64 &&& 63)).toInt32.toBitVec = (x.toBitVec.sshiftRight (4 * m)).signExtend 32 := by
    show ((x >>> ((iz ((m * 4 : Nat) : Int)).toInt64 &&& 63)).toBitVec).signExtend 32 = _
    rw [Int64.toBitVec_shiftRight, nb_sh ⟨m, hm⟩]
    show (x.toBitVec.sshiftRight (BitVec.ofNat 64 (4 * m)).toNat).signExtend 32 = _
    rw [nb_n m hm]
  rw [Int32.toBitVec_and, BitVec.getLsbD_and, e, nb_15 ⟨b, hb⟩, BitVec.getLsbD_signExtend, BitVec.getLsbD_sshiftRight]
  by_cases q : b < 4
  · have h1 : 4 * m + b < 64 := by omega
    have h2 : b < 64 := by omega
    have h3 : ¬ 64 ≤ b := by omega
    simp [q, h1, h2, h3, hb]
  · simp [q]
theorem kp_b {v : Int} {m c : Nat} (hm : m < 16) (hc : c < 16) (j : Nat) (hj : j < 64) : (lz (kpv v m c)).toBitVec.getLsbD j = (((lz v).toBitVec.getLsbD j && !(decide (4 * m ≤ j) && decide (j - 4 * m < 4))) || (decide (4 * m ≤ j) && (BitVec.ofNat 64 c).getLsbD (j - 4 * m))) := by
  have e : (lz (kpv v m c)).toBitVec = ((lz v).toBitVec &&& (((15 : Int64).toBitVec <<< (4 * m)) ^^^ (-1 : Int64).toBitVec)) ||| ((BitVec.ofNat 64 c) <<< (4 * m)) := by
    unfold kpv
    rw [lz_toInt, Int64.toBitVec_or, Int64.toBitVec_and, Int64.toBitVec_xor, Int64.toBitVec_shiftLeft, Int64.toBitVec_shiftLeft, nb_sh ⟨m, hm⟩, nb_c ⟨c, hc⟩]
    show ((lz v).toBitVec &&& (((15 : Int64).toBitVec <<< (BitVec.ofNat 64 (4 * m)).toNat) ^^^ (-1 : Int64).toBitVec)) ||| ((BitVec.ofNat 64 c) <<< (BitVec.ofNat 64 (4 * m)).toNat) = _
    rw [nb_n m hm]
  rw [e, BitVec.getLsbD_or, BitVec.getLsbD_and, BitVec.getLsbD_xor, BitVec.getLsbD_shiftLeft, BitVec.getLsbD_shiftLeft, nb_m1 ⟨j, hj⟩, nb_L15 ⟨j - 4 * m, by omega⟩]
  by_cases q : j < 4 * m
  · have q2 : ¬ 4 * m ≤ j := by omega
    simp [q, q2]
  · have q2 : 4 * m ≤ j := by omega
    simp [q, q2, hj]
theorem nbv_e (v : Int) (m : Nat) : nbv v m = ((lz v >>> ((iz ((m * 4 : Nat) : Int)).toInt64 &&& 63)).toInt32 &&& 15).toInt := by
  unfold nbv andI l2iI
  rw [iz_toInt]
  rfl
theorem nb_set {v : Int} {m c : Nat} (hm : m < 16) (hc : c < 16) : nbv (kpv v m c) m = (c : Int) := by
  rw [nbv_e]
  have e : ((lz (kpv v m c) >>> ((iz ((m * 4 : Nat) : Int)).toInt64 &&& 63)).toInt32 &&& 15) = nI c := by
    apply Int32.toBitVec_inj.1
    apply BitVec.eq_of_getLsbD_eq
    intro b hb
    rw [nb_b hm b hb]
    show _ = (BitVec.ofNat 32 c).getLsbD b
    rw [BitVec.getLsbD_ofNat]
    by_cases q : b < 4
    · rw [kp_b hm hc _ (by omega), BitVec.getLsbD_ofNat]
      have h1 : 4 * m ≤ 4 * m + b := by omega
      have h2 : 4 * m + b - 4 * m = b := by omega
      have h3 : b < 64 := by omega
      simp [q, h1, h2, h3, hb]
    · have : c.testBit b = false := Nat.testBit_lt_two_pow (Nat.lt_of_lt_of_le hc (by have : 2 ^ 4 ≤ 2 ^ b := Nat.pow_le_pow_right (by decide) (by omega); simpa using this))
      simp [q, this]
  rw [e]
  exact nI_toInt (by omega)
theorem nb_other {v : Int} {m m' c : Nat} (hm : m < 16) (hm' : m' < 16) (hc : c < 16) (hne : m' ≠ m) : nbv (kpv v m c) m' = nbv v m' := by
  rw [nbv_e, nbv_e]
  congr 1
  apply Int32.toBitVec_inj.1
  apply BitVec.eq_of_getLsbD_eq
  intro b hb
  rw [nb_b hm' b hb, nb_b hm' b hb]
  by_cases q : b < 4
  · rw [kp_b hm hc _ (by omega)]
    by_cases z : m' < m
    · have h1 : ¬ 4 * m ≤ 4 * m' + b := by omega
      simp [h1]
    · have h1 : 4 ≤ 4 * m' + b - 4 * m := by omega
      have h2 : ¬ 4 * m' + b - 4 * m < 4 := by omega
      have h3 := nb_c4 ⟨c, hc⟩ ⟨4 * m' + b - 4 * m, by omega⟩ h1
      simp only at h3
      rw [h3]
      simp [h2]
  · simp [q]
