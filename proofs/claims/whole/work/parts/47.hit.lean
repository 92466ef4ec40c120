/-! a hit -/
def endS (S R : St) (x : Nat) : St := setI (setA (setA S 6 x (S.1 16 + R.2 1 x)) 4 x (S.1 11)) 11 (S.1 11 + 1)
theorem c_end {S R : St} {x : Nat} {v : Int} (hx : x < 16) : fX2_step_j61 (x : Int) v (S, R) = some (v, (endS S R x, R)) := by
  simp only [fX2_step_j61, nm, bd_n hx, Int.toNat_natCast, endS, sA1, sI1]
def meS (S : St) (w x : Nat) (mk : Nat) : St := if w = 5 ∨ w = 6 then mvS (setI (setA S 5 x (S.2 5 x + 1)) 12 ((mk ||| 2 ^ x : Nat) : Int)) x 2 else setI (setA S 5 x (S.2 5 x + 1)) 12 ((mk ||| 2 ^ x : Nat) : Int)
theorem c_meet {S R : St} {w x mk : Nat} (hx : x < 16) (hw : S.1 9 = (w : Int)) (h8 : w ≤ 8) (hm : S.1 12 = (mk : Int)) (hmk : mk < 65536) (hp : 0 ≤ S.2 1 x ∧ S.2 1 x < 5) : fX2_meet (S, R) (x : Int) = some (meS S w x mk, R) := by
  have ho := (or_bit (t := x) hmk hx).1
  have hb : fX2_hasBooks (setI (setA S 5 x (S.2 5 x + 1)) 12 ((mk ||| 2 ^ x : Nat) : Int), R) = _ := c_hasBooks (w := w) (by simp only [sI1, sA1, Nat.reduceEqDiff, ↓reduceIte]; exact hw) h8
  have hv : fX2_move (setI (setA S 5 x (S.2 5 x + 1)) 12 ((mk ||| 2 ^ x : Nat) : Int), R) (x : Int) 2 = _ := c_move (to := 2) hx (by decide) (by simp only [sI2, sA2, Nat.reduceEqDiff, ↓reduceIte]; exact hp)
  simp only [fX2_meet, fX2_meet_j35, nm, bd_n hx, Int.toNat_natCast, sA1, hm, ho, hb, cls_s]
  unfold meS
  by_cases h : w = 5 ∨ w = 6
  · simp only [if_pos h, wl_1, Int.one_ne_zero, ↓reduceIte, hv, clv_s]
  · simp only [if_neg h, wl_0, ↓reduceIte]
def hiM (M : St) (w x i : Nat) : St := setA (setA (if M.2 19 x = 2 then setA (setA M 16 x (M.2 16 x + 1)) 17 x (if w = 2 ∨ w = 3 then 1 else 0) else setA (setA (setA (setA M 16 x (M.2 16 x + 1)) 17 x (if w = 2 ∨ w = 3 then 1 else 0)) 19 x 2) 20 x (i : Int)) 21 x (M.1 26 + M.2 0 x)) 15 x (i : Int)
theorem m_hit {M : St} {w x i : Nat} (hx : x < 16) (hw : M.1 11 = (w : Int)) (h8 : w ≤ 8) (h19 : wr (M.2 19 x) = M.2 19 x) : (clv (fX4_hit M (x : Int) (i : Int)) (fun u => u) fun Y124 => fX4_serveOne_j236 (i : Int) (x : Int) Y124) = some (hiM M w x i) := by
  simp only [fX4_hit, fX4_hit_j31, fX4_hit_j36, fX4_hit_j61, fX4_serveOne_j236, nm, bd_n hx, Int.toNat_natCast, sA1, sA2, hw, wr_nat (show w < 2147483648 by omega), wl_2, wl_3, cb_0, cb_1, h19, Nat.reduceEqDiff, ↓reduceIte, hiM]
  by_cases h2 : w = 2
  · subst h2
    simp only [show ((2 : Nat) : Int) = 2 from rfl, ↓reduceIte, true_or]
    by_cases h : M.2 19 x = 2
    · simp only [if_pos h, clv_s] <;> try rfl
    · simp only [if_neg h, clv_s] <;> try rfl
  · by_cases h3 : w = 3
    · subst h3
      simp only [show ((3 : Nat) : Int) = 3 from rfl, ↓reduceIte, or_true]
      by_cases h : M.2 19 x = 2
      · simp only [if_pos h, clv_s] <;> try rfl
      · simp only [if_neg h, clv_s] <;> try rfl
    · have e2 : ¬ (w : Int) = 2 := by omega
      have e3 : ¬ (w : Int) = 3 := by omega
      have e23 : ¬ (w = 2 ∨ w = 3) := by omega
      simp only [if_neg e2, if_neg e3, if_neg e23]
      by_cases h : M.2 19 x = 2
      · simp only [if_pos h, clv_s] <;> try rfl
      · simp only [if_neg h, clv_s] <;> try rfl
theorem TH_keep {S M S' M' : St} {r : Nat → Nat} {w k i i' t : Nat} {occ occ' : Nat → Prop} (h : TH S M r w k i occ t) (hi : i ≤ i') (hs : S'.2 1 t = S.2 1 t ∧ S'.2 3 t = S.2 3 t ∧ S'.2 4 t = S.2 4 t ∧ S'.2 5 t = S.2 5 t ∧ S'.2 6 t = S.2 6 t ∧ S'.2 7 t = S.2 7 t) (hm : M'.2 13 t = M.2 13 t ∧ M'.2 14 t = M.2 14 t ∧ M'.2 15 t = M.2 15 t ∧ M'.2 16 t = M.2 16 t ∧ M'.2 18 t = M.2 18 t ∧ M'.2 19 t = M.2 19 t ∧ M'.2 20 t = M.2 20 t ∧ M'.2 21 t = M.2 21 t) (ho : ∀ q, q < k → occ q → S.2 8 q = (t : Int) → occ' q ∧ S'.2 8 q = S.2 8 q) (h8 : w = 8 → M.2 13 t = 1 → ∀ j : Nat, i ≤ j → j < i' → r j ≠ t) : TH S' M' r w k i' occ' t := by
  obtain ⟨s1, s3, s4, s5, s6, s7⟩ := hs
  obtain ⟨m13, m14, m15, m16, m18, m19, m20, m21⟩ := hm
  unfold TH at h ⊢
  rw [s1, s3, s4, s5, s6, s7, m13, m14, m15, m16, m18, m19, m20, m21]
  obtain ⟨a1, a2, a3, a4, a5, a6, a7, a8, a9⟩ := h
  refine ⟨a1, a2, a3, fun q => ?_, fun q => ?_, a6, fun q1 q2 => ?_, fun q1 q2 => ?_, fun q1 q2 => ?_⟩
  · obtain ⟨b1, b2, b3, b4, b5, b6, b7, b8, b9, b10⟩ := a4 q
    exact ⟨b1, b2, by omega, b4, b5, by omega, b7, b8, by omega, b10⟩
  · obtain ⟨u, c1, c2, c3, c4⟩ := a5 q
    obtain ⟨c5, c6⟩ := ho u c1 c2 c4
    exact ⟨u, c1, c5, c3, c6.trans c4⟩
  · obtain ⟨b1, b2, b3⟩ := a7 q1 q2
    exact ⟨b1, b2, by omega⟩
  · obtain ⟨b1, b2, b3⟩ := a8 q1 q2
    exact ⟨b1, b2, by omega⟩
  · obtain ⟨b1, b2⟩ := a9 q1 q2
    refine ⟨b1, fun j c1 c2 => ?_⟩
    by_cases c3 : j < i
    · exact b2 j c1 c3
    · exact h8 q1 q2 j (by omega) c2
/-! fields behind a hit -/
theorem hiM_1 (M : St) (w x i : Nat) : (hiM M w x i).1 = M.1 := by unfold hiM; split <;> rfl
theorem hiM_n (M : St) (w x i t : Nat) (h : t ≠ x) (a : Nat) : (hiM M w x i).2 a t = M.2 a t := by
  unfold hiM
  split <;> simp [sA2, h]
theorem hiM_x (M : St) (w x i : Nat) : (hiM M w x i).2 13 x = M.2 13 x ∧ (hiM M w x i).2 14 x = M.2 14 x ∧ (hiM M w x i).2 15 x = (i : Int) ∧ (hiM M w x i).2 16 x = M.2 16 x + 1 ∧ (hiM M w x i).2 17 x = (if w = 2 ∨ w = 3 then 1 else 0) ∧ (hiM M w x i).2 18 x = M.2 18 x ∧ (hiM M w x i).2 19 x = 2 ∧ (hiM M w x i).2 21 x = M.1 26 + M.2 0 x := by
  unfold hiM
  split
  · next h => simp [sA2, h]
  · simp [sA2]
theorem hiM_o (M : St) (w x i a t : Nat) (h : a ≤ 12 ∨ 22 ≤ a) : (hiM M w x i).2 a t = M.2 a t := by
  have h1 : a ≠ 15 := by omega
  have h2 : a ≠ 16 := by omega
  have h3 : a ≠ 17 := by omega
  have h4 : a ≠ 19 := by omega
  have h5 : a ≠ 20 := by omega
  have h6 : a ≠ 21 := by omega
  unfold hiM
  split <;> simp [sA2, *]
theorem meS_1 (S : St) (w x mk : Nat) : ∀ j, j ≠ 12 → (meS S w x mk).1 j = S.1 j := by
  intro j hj
  unfold meS
  split <;> simp [mvS, sI1, sA1, hj]
theorem meS_mk (S : St) (w x mk : Nat) : (meS S w x mk).1 12 = ((mk ||| 2 ^ x : Nat) : Int) := by
  unfold meS
  split <;> simp [mvS, sI1, sA1]
theorem meS_n (S : St) (w x mk t : Nat) (h : t ≠ x) (a : Nat) (ha : a ≠ 2) : (meS S w x mk).2 a t = S.2 a t := by
  unfold meS
  split
  · simp only [mvS, sI2, sA2]
    grind
  · simp [sI2, sA2, h]
theorem meS_x (S : St) (w x mk : Nat) : (meS S w x mk).2 1 x = (if w = 5 ∨ w = 6 then 2 else S.2 1 x) ∧ (¬ (w = 5 ∨ w = 6) → (meS S w x mk).2 3 x = S.2 3 x) ∧ (meS S w x mk).2 4 x = S.2 4 x ∧ (meS S w x mk).2 5 x = S.2 5 x + 1 ∧ (meS S w x mk).2 6 x = S.2 6 x ∧ (meS S w x mk).2 7 x = S.2 7 x := by
  unfold meS
  split
  · next h => simp [mvS, sI2, sA2, h]
  · next h => simp [sI2, sA2, h]
theorem meS_8 (S : St) (w x mk q : Nat) : (meS S w x mk).2 8 q = S.2 8 q := by
  unfold meS
  split <;> simp [mvS, sI2, sA2]
theorem endS_1 (S R : St) (x j : Nat) : (endS S R x).1 j = if j = 11 then S.1 11 + 1 else S.1 j := by simp [endS, sI1, sA1]
theorem endS_2 (S R : St) (x a t : Nat) : (endS S R x).2 a t = if t = x then (if a = 6 then S.1 16 + R.2 1 x else if a = 4 then S.1 11 else S.2 a t) else S.2 a t := by
  simp only [endS, sI2, sA2]
  grind
