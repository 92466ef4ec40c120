/-! the pure side: words on Ints, states and bits -/
theorem wr_nat {n : Nat} (h : n < 2147483648) : wr (n : Int) = n := wr_id (by omega)
theorem wl_0 : wr 0 = 0 := by decide
theorem wl_1 : wr 1 = 1 := by decide
theorem wl_2 : wr 2 = 2 := by decide
theorem wl_3 : wr 3 = 3 := by decide
theorem wl_4 : wr 4 = 4 := by decide
theorem wl_5 : wr 5 = 5 := by decide
theorem wl_6 : wr 6 = 6 := by decide
theorem wl_7 : wr 7 = 7 := by decide
theorem wl_8 : wr 8 = 8 := by decide
theorem wl_9 : wr 9 = 9 := by decide
theorem wl_10 : wr 10 = 10 := by decide
theorem wl_16 : wr 16 = 16 := by decide
theorem wl_252 : wr 252 = 252 := by decide
theorem wl_300 : wr 300 = 300 := by decide
theorem wl_1000 : wr 1000 = 1000 := by decide
theorem wl_m1 : wr (-1) = -1 := by decide
theorem wl_m2 : wr (-2) = -2 := by decide
theorem cb_0 {O : Type} {F : Option O} : cb 0 F = F := if_pos (Or.inl rfl)
theorem cb_1 {O : Type} {F : Option O} : cb 1 F = F := if_pos (Or.inr rfl)
theorem bd_n {O : Type} {n m : Nat} {F : Option O} (h : n < m) : bd (n : Int) m F = F := bd_pos (by omega)
theorem cz_pos {O : Type} {b : Int} {F : Option O} (h : wr b ≠ 0) : cz b F = F := if_neg h
theorem clp_s {O : Type} {r : Int} {F : Int → Option O} : clp (some r) F = F r := rfl
theorem cls_s {σ ρ O : Type} {r : Int} {u : ρ} {put : ρ → σ} {F : Int → σ → Option O} : cls (some (r, u)) put F = F r (put u) := rfl
theorem clv_s {σ ρ O : Type} {u : ρ} {put : ρ → σ} {F : σ → Option O} : clv (some u) put F = F (put u) := rfl
theorem sI1 (S : St) (k j : Nat) (a : Int) : (setI S k a).1 j = if j = k then a else S.1 j := rfl
theorem sI2 (S : St) (k : Nat) (a : Int) : (setI S k a).2 = S.2 := rfl
theorem sA1 (S : St) (k i : Nat) (a : Int) : (setA S k i a).1 = S.1 := rfl
theorem sA2 (S : St) (k i j x : Nat) (a : Int) : (setA S k i a).2 j x = if j = k then (if x = i then a else S.2 j x) else S.2 j x := by
  unfold setA
  by_cases h : j = k
  · subst h; simp only [↓reduceIte]
  · simp only [if_neg h]
theorem sR1 (S : St) (k : Nat) (f : Nat → Int) : (setR S k f).1 = S.1 := rfl
theorem sR2 (S : St) (k j x : Nat) (f : Nat → Int) : (setR S k f).2 j x = if j = k then f x else S.2 j x := by
  unfold setR
  by_cases h : j = k
  · subst h; simp only [↓reduceIte]
  · simp only [if_neg h]
/-! small questions -/
theorem e_isThing {a : Int} (ha : wr a = a) : fX3_isThing a = some (if 0 ≤ a ∧ a < 16 then 1 else 0) := by
  unfold fX3_isThing fX3_isThing_j14 fX3_isThing_j15
  simp only [ha, wl_16, cb_0, cb_1]
  by_cases h1 : a < 0
  · rw [if_pos h1, if_neg (by omega)]
  · by_cases h2 : 16 ≤ a
    · rw [if_neg h1, if_pos h2, if_neg (by omega)]
    · rw [if_neg h1, if_neg h2, if_pos (by omega)]
theorem e_isWay {a : Int} (ha : wr a = a) : fX3_isWay a = some (if 0 ≤ a ∧ a ≤ 8 then 1 else 0) := by
  unfold fX3_isWay fX3_isWay_j14 fX3_isWay_j15
  simp only [ha, wl_8, cb_0, cb_1]
  by_cases h1 : a < 0
  · rw [if_pos h1, if_neg (by omega)]
  · by_cases h2 : 8 < a
    · rw [if_neg h1, if_pos h2, if_neg (by omega)]
    · rw [if_neg h1, if_neg h2, if_pos (by omega)]
theorem e_isPlaces {a : Int} (ha : wr a = a) : fX3_isPlaces a = some (if 1 ≤ a ∧ a ≤ 8 then 1 else 0) := by
  unfold fX3_isPlaces fX3_isPlaces_j15 fX3_isPlaces_j16
  simp only [ha, wl_8, wl_1, cb_0, cb_1]
  by_cases h1 : a < 1
  · rw [if_pos h1, if_neg (by omega)]
  · by_cases h2 : 8 < a
    · rw [if_neg h1, if_pos h2, if_neg (by omega)]
    · rw [if_neg h1, if_neg h2, if_pos (by omega)]
