/-! bits of small numbers (the first two rows begin as rows of kit/laws/NUMBERS.to-paste) -/
theorem fa_and (a b : Nat) : nI a &&& nI b = nI (a &&& b) := by
  apply Int32.toBitVec_inj.1
  show BitVec.ofNat 32 a &&& BitVec.ofNat 32 b = BitVec.ofNat 32 (a &&& b)
  apply BitVec.eq_of_getLsbD_eq
  intro i hi
  simp [hi]
theorem fa_or (a b : Nat) : nI a ||| nI b = nI (a ||| b) := by
  apply Int32.toBitVec_inj.1
  show BitVec.ofNat 32 a ||| BitVec.ofNat 32 b = BitVec.ofNat 32 (a ||| b)
  apply BitVec.eq_of_getLsbD_eq
  intro i hi
  simp [hi]
theorem fa_xor (a b : Nat) : nI a ^^^ nI b = nI (a ^^^ b) := by
  apply Int32.toBitVec_inj.1
  show BitVec.ofNat 32 a ^^^ BitVec.ofNat 32 b = BitVec.ofNat 32 (a ^^^ b)
  apply BitVec.eq_of_getLsbD_eq
  intro i hi
  simp [hi]
theorem iz_nat (n : Nat) : iz (n : Int) = nI n := rfl
theorem and_nat {a b : Nat} (ha : a < 2147483648) : andI (a : Int) (b : Int) = ((a &&& b : Nat) : Int) := by
  unfold andI
  rw [iz_nat, iz_nat, fa_and]
  exact nI_toInt (Nat.lt_of_le_of_lt Nat.and_le_left ha)
theorem or_nat {a b : Nat} (k : Nat) (hk : k ≤ 31) (ha : a < 2 ^ k) (hb : b < 2 ^ k) : orI (a : Int) (b : Int) = ((a ||| b : Nat) : Int) := by
  unfold orI
  rw [iz_nat, iz_nat, fa_or]
  exact nI_toInt (Nat.lt_of_lt_of_le (Nat.or_lt_two_pow ha hb) (Nat.pow_le_pow_right (by decide) hk))
theorem xor_nat {a b : Nat} (k : Nat) (hk : k ≤ 31) (ha : a < 2 ^ k) (hb : b < 2 ^ k) : xorI (a : Int) (b : Int) = ((a ^^^ b : Nat) : Int) := by
  unfold xorI
  rw [iz_nat, iz_nat, fa_xor]
  exact nI_toInt (Nat.lt_of_lt_of_le (Nat.xor_lt_two_pow ha hb) (Nat.pow_le_pow_right (by decide) hk))
theorem shl1_f : ∀ t : Fin 31, shlI 1 ((t.val : Nat) : Int) = ((2 ^ t.val : Nat) : Int) := by decide
theorem shl1 {t : Nat} (h : t < 31) : shlI 1 (t : Int) = ((2 ^ t : Nat) : Int) := shl1_f ⟨t, h⟩
theorem ushr_nat {a : Nat} (h : a < 2147483648) (k : Nat) (c : Int) (hc : (((iz c).toUInt32 &&& Int32.toUInt32 31).toBitVec % 32).toNat = k) : ushrI (a : Int) c = ((a / 2 ^ k : Nat) : Int) := by
  unfold ushrI
  rw [iz_nat, pk_ushrN (by omega) (iz c) k hc]
  exact nI_toInt (Nat.lt_of_le_of_lt (Nat.div_le_self _ _) h)
theorem shr_nat {a : Nat} (h : a < 2147483648) (k : Nat) (c : Int) (hc : ((iz c &&& 31).toBitVec.smod 32).toNat = k) : shrI (a : Int) c = ((a / 2 ^ k : Nat) : Int) := by
  unfold shrI
  rw [iz_nat, pk_shrN h (iz c &&& 31) k hc]
  exact nI_toInt (Nat.lt_of_le_of_lt (Nat.div_le_self _ _) h)
theorem shr_f : ∀ t : Fin 31, ((iz ((t.val : Nat) : Int) &&& 31).toBitVec.smod 32).toNat = t.val := by decide
theorem shr_n {a t : Nat} (h : a < 2147483648) (ht : t < 31) : shrI (a : Int) (t : Int) = ((a / 2 ^ t : Nat) : Int) := shr_nat h t (t : Int) (shr_f ⟨t, ht⟩)
theorem bit_0 {a t : Nat} : a &&& 2 ^ t = 0 ↔ a.testBit t = false := by
  constructor
  · intro h
    have h1 : (a &&& 2 ^ t).testBit t = false := by rw [h]; simp
    rw [Nat.testBit_and, Nat.testBit_two_pow_self] at h1
    simpa using h1
  · intro h
    apply Nat.eq_of_testBit_eq
    intro j
    rw [Nat.testBit_and, Nat.testBit_two_pow]
    by_cases hj : t = j
    · subst hj; rw [h]; simp
    · simp [hj]
theorem wr_bit {a t : Nat} (ha : a < 2147483648) (ht : t < 31) : wr (andI (a : Int) (shlI 1 (t : Int))) = 0 ↔ a.testBit t = false := by
  rw [shl1 ht, and_nat ha, wr_nat (Nat.lt_of_le_of_lt Nat.and_le_left ha)]
  rw [← bit_0 (a := a) (t := t)]
  omega
/-- without one bit -/
def clr (a t : Nat) : Nat := a &&& (4294967295 ^^^ 2 ^ t)
theorem clr_lt {a t n : Nat} (h : a < n) : clr a t < n := Nat.lt_of_le_of_lt Nat.and_le_left h
theorem clr_bit {a t : Nat} (ha : a < 65536) (j : Nat) : (clr a t).testBit j = (a.testBit j && !decide (j = t)) := by
  unfold clr
  rw [Nat.testBit_and, Nat.testBit_xor, Nat.testBit_two_pow]
  by_cases hj : j < 16
  · have h1 : (4294967295 : Nat).testBit j = true := by
      have : ∀ j : Fin 16, (4294967295 : Nat).testBit j.val = true := by decide
      exact this ⟨j, hj⟩
    rw [h1]
    by_cases h : j = t
    · subst h; simp
    · have h2 : ¬ t = j := fun q => h q.symm
      simp [h, h2]
  · have h0 : a.testBit j = false := Nat.testBit_lt_two_pow (Nat.lt_of_lt_of_le ha (by have : 2 ^ 16 ≤ 2 ^ j := Nat.pow_le_pow_right (by decide) (by omega); simpa using this))
    rw [h0]; simp
theorem not_f : ∀ t : Fin 31, iz (xorI ((2 ^ t.val : Nat) : Int) (-1)) = nI (4294967295 ^^^ 2 ^ t.val) := by decide
theorem and_not {a t : Nat} (ha : a < 65536) (ht : t < 31) : andI (a : Int) (xorI (shlI 1 (t : Int)) (-1)) = ((clr a t : Nat) : Int) := by
  rw [shl1 ht]
  unfold andI
  rw [iz_nat, not_f ⟨t, ht⟩, fa_and]
  exact nI_toInt (Nat.lt_of_le_of_lt Nat.and_le_left (by omega))
theorem or_bit {a t : Nat} (ha : a < 65536) (ht : t < 16) : orI (a : Int) (shlI 1 (t : Int)) = ((a ||| 2 ^ t : Nat) : Int) ∧ a ||| 2 ^ t < 65536 := by
  have h2 : 2 ^ t < 2 ^ 16 := Nat.pow_lt_pow_right (by decide) ht
  rw [shl1 (by omega), or_nat 16 (by decide) ha h2]
  exact ⟨rfl, Nat.or_lt_two_pow (n := 16) ha h2⟩
theorem orb_bit (a t j : Nat) : (a ||| 2 ^ t).testBit j = (a.testBit j || decide (j = t)) := by
  rw [Nat.testBit_or, Nat.testBit_two_pow]
  by_cases h : j = t
  · subst h; simp
  · have : ¬ t = j := fun q => h q.symm
    simp [h, this]
/-! how many -/
def cn (c : Nat → Prop) [DecidablePred c] : Nat → Nat
  | 0 => 0
  | t + 1 => cn c t + (if c t then 1 else 0)
theorem cn_congr {c c' : Nat → Prop} [DecidablePred c] [DecidablePred c'] {n : Nat} (h : ∀ t, t < n → (c t ↔ c' t)) : cn c n = cn c' n := by
  induction n with
  | zero => rfl
  | succ n ih =>
    unfold cn
    rw [ih (fun t ht => h t (by omega))]
    by_cases hc : c n
    · rw [if_pos hc, if_pos ((h n (by omega)).mp hc)]
    · rw [if_neg hc, if_neg (fun q => hc ((h n (by omega)).mpr q))]
theorem cn_le (c : Nat → Prop) [DecidablePred c] (n : Nat) : cn c n ≤ n := by
  induction n with
  | zero => exact Nat.le_refl _
  | succ n ih => unfold cn; split <;> omega
/-- one place changes -/
theorem cn_upd {c c' : Nat → Prop} [DecidablePred c] [DecidablePred c'] {n x : Nat} (hx : x < n) (h : ∀ t, t < n → t ≠ x → (c t ↔ c' t)) : cn c' n + (if c x then 1 else 0) = cn c n + (if c' x then 1 else 0) := by
  induction n with
  | zero => omega
  | succ n ih =>
    unfold cn
    by_cases hn : x = n
    · subst hn
      rw [cn_congr (c := c) (c' := c') (fun t ht => h t (by omega) (by omega))]
      omega
    · have ih := ih (by omega) (fun t ht hne => h t (by omega) hne)
      have hc := h n (by omega) (fun q => hn q.symm)
      by_cases h1 : c n
      · rw [if_pos h1, if_pos (hc.mp h1)]; omega
      · rw [if_neg h1, if_neg (fun q => h1 (hc.mpr q))]; omega
theorem cn_mono {c c' : Nat → Prop} [DecidablePred c] [DecidablePred c'] {n : Nat} (h : ∀ t, t < n → c t → c' t) : cn c n ≤ cn c' n ∧ (cn c' n ≤ cn c n → ∀ t, t < n → c' t → c t) := by
  induction n with
  | zero => exact ⟨Nat.le_refl _, fun _ t ht => by omega⟩
  | succ n ih =>
    obtain ⟨h1, h2⟩ := ih (fun t ht => h t (by omega))
    have hn := h n (by omega)
    unfold cn
    by_cases a : c n
    · rw [if_pos a, if_pos (hn a)]
      refine ⟨by omega, fun q t ht hc => ?_⟩
      by_cases e : t = n
      · subst e; exact a
      · exact h2 (by omega) t (by omega) hc
    · rw [if_neg a]
      by_cases b : c' n
      · rw [if_pos b]; exact ⟨by omega, fun q => by omega⟩
      · rw [if_neg b]
        refine ⟨by omega, fun q t ht hc => ?_⟩
        by_cases e : t = n
        · subst e; exact absurd hc b
        · exact h2 (by omega) t (by omega) hc
theorem cn_pos {c : Nat → Prop} [DecidablePred c] {n : Nat} : 0 < cn c n ↔ ∃ t, t < n ∧ c t := by
  induction n with
  | zero => exact ⟨fun h => by unfold cn at h; omega, fun ⟨t, h, _⟩ => by omega⟩
  | succ n ih =>
    unfold cn
    constructor
    · intro h
      by_cases a : c n
      · exact ⟨n, by omega, a⟩
      · rw [if_neg a] at h
        obtain ⟨t, h1, h2⟩ := ih.mp (by omega)
        exact ⟨t, by omega, h2⟩
    · rintro ⟨t, h1, h2⟩
      by_cases e : t = n
      · subst e; rw [if_pos h2]; omega
      · have := ih.mpr ⟨t, by omega, h2⟩
        omega
theorem cn_or {c d e : Nat → Prop} [DecidablePred c] [DecidablePred d] [DecidablePred e] {n : Nat} (h : ∀ t, t < n → (e t ↔ c t ∨ d t)) (hx : ∀ t, t < n → c t → ¬ d t) : cn e n = cn c n + cn d n := by
  induction n with
  | zero => rfl
  | succ n ih =>
    have ih := ih (fun t ht => h t (by omega)) (fun t ht => hx t (by omega))
    have h1 := h n (by omega)
    have h2 := hx n (by omega)
    unfold cn
    by_cases a : c n
    · rw [if_pos a, if_neg (h2 a), if_pos (h1.mpr (Or.inl a))]; omega
    · rw [if_neg a]
      by_cases b : d n
      · rw [if_pos b, if_pos (h1.mpr (Or.inr b))]; omega
      · rw [if_neg b, if_neg (fun q => by rcases h1.mp q with z | z <;> contradiction)]; omega
