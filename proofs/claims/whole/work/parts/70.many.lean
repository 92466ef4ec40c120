/-! many -/
def bt (r : Nat → Nat) : Nat → Nat
  | 0 => 0
  | s + 1 => bt r s ||| 2 ^ (r s)
theorem bt_lt {r : Nat → Nat} : ∀ s, (∀ j, j < s → r j < 16) → bt r s < 65536 := by
  intro s
  induction s with
  | zero => intro _; show (0 : Nat) < 65536; decide
  | succ s ih =>
    intro h
    exact (or_bit (ih fun j hj => h j (by omega)) (h s (by omega))).2
theorem bt_b {r : Nat → Nat} (s t : Nat) : (bt r (s + 1)).testBit t = ((bt r s).testBit t || decide (t = r s)) := orb_bit _ _ _
theorem c_bits {R : St} {n : Nat} {r : Nat → Nat} (h4 : R.1 4 = (n : Int)) (hn3 : n ≤ 300) (hr : ∀ i, i < n → r i < 16 ∧ R.2 0 i = (r i : Int)) : fX1_bits R = some (((bt r n : Nat) : Int), R) := by
  have key : ∀ (d s f : Nat), s + d = n → d < f → fX1_bits_l4 f ((bt r s : Nat) : Int) (s : Int) R = some (((bt r n : Nat) : Int), R) := by
    intro d
    induction d with
    | zero =>
      intro s f hs hf
      obtain ⟨f', rfl⟩ : ∃ f', f = f' + 1 := ⟨f - 1, by omega⟩
      have hsn : s = n := by omega
      subst hsn
      have e : wr (R.1 4) ≤ wr (s : Int) := by rw [h4]; exact Int.le_refl _
      unfold fX1_bits_l4
      rw [if_pos e]
      rfl
    | succ d ih =>
      intro s f hs hf
      obtain ⟨f', rfl⟩ : ∃ f', f = f' + 1 := ⟨f - 1, by omega⟩
      have e : ¬ wr (R.1 4) ≤ wr (s : Int) := by rw [h4, wr_nat (by omega), wr_nat (by omega)]; omega
      obtain ⟨a, b⟩ := hr s (by omega)
      unfold fX1_bits_l4
      rw [if_neg e, bd_n (show s < 300 by omega), Int.toNat_natCast, b, (or_bit (bt_lt s fun j hj => (hr j (by omega)).1) a).1, nm_q, nm_q, up1]
      exact ih (s + 1) f' (by omega) (by omega)
  unfold fX1_bits
  rw [nm_q, nm_q]
  exact key n 0 FU (by omega) (FU_gt (by omega))
theorem c_unlike {R : St} {n : Nat} {r : Nat → Nat} (h4 : R.1 4 = (n : Int)) (hn3 : n ≤ 300) (hr : ∀ i, i < n → r i < 16 ∧ R.2 0 i = (r i : Int)) : fX1_unlike R = some (((cn (fun t => (bt r n).testBit t = true) 16 : Nat) : Int), R) := by
  unfold fX1_unlike
  rw [c_bits h4 hn3 hr, cls_s, e_bitCount (bt_lt n fun j hj => (hr j hj).1), clp_s]
theorem m_unlike {M : St} {n : Nat} {r : Nat → Nat} (h2 : M.1 2 = (n : Int)) (hn3 : n ≤ 300) (hr : ∀ i, i < n → r i < 16 ∧ M.2 1 i = (r i : Int)) : fX4_unlike M = some (((cn (fun t => (bt r n).testBit t = true) 16 : Nat) : Int), M) := by
  have inn : ∀ (K : Int → Int → St → Option (Int × St)) (v1 : Int) (t : Nat), t < 16 → ∀ (d s f : Nat), s + d = n → d < f → fX4_unlike_l15 K f v1 (t : Int) (if (bt r s).testBit t = true then 1 else 0) (s : Int) M = fX4_unlike_j51 K v1 (t : Int) (if (bt r n).testBit t = true then 1 else 0) M := by
    intro K v1 t ht d
    induction d with
    | zero =>
      intro s f hs hf
      obtain ⟨f', rfl⟩ : ∃ f', f = f' + 1 := ⟨f - 1, by omega⟩
      have hsn : s = n := by omega
      subst hsn
      have e : wr (M.1 2) ≤ wr (s : Int) := by rw [h2]; exact Int.le_refl _
      unfold fX4_unlike_l15
      rw [if_pos e]
    | succ d ih =>
      intro s f hs hf
      obtain ⟨f', rfl⟩ : ∃ f', f = f' + 1 := ⟨f - 1, by omega⟩
      have e : ¬ wr (M.1 2) ≤ wr (s : Int) := by rw [h2, wr_nat (by omega), wr_nat (by omega)]; omega
      obtain ⟨a, b⟩ := hr s (by omega)
      have hi := ih (s + 1) f' (by omega) (by omega)
      rw [bt_b] at hi
      unfold fX4_unlike_l15
      rw [if_neg e]
      by_cases q : (bt r s).testBit t = true
      · rw [if_pos q, if_neg w1]
        unfold fX4_unlike_j39 fX4_unlike_j44
        rw [nm_q, nm_q, up1]
        rw [q, Bool.true_or, if_pos rfl] at hi
        exact hi
      · rw [if_neg q, if_pos wl_0, bd_n (show s < 300 by omega), Int.toNat_natCast, b]
        have q' : (bt r s).testBit t = false := by simpa using q
        rw [q', Bool.false_or] at hi
        by_cases z : t = r s
        · have e2 : wr ((r s : Nat) : Int) = wr (t : Int) := by rw [z]
          rw [if_pos e2]
          unfold fX4_unlike_j39 fX4_unlike_j44
          rw [nm_q, nm_q, up1]
          rw [if_pos (by simp [z])] at hi
          exact hi
        · have e2 : ¬ wr ((r s : Nat) : Int) = wr (t : Int) := by rw [wr_nat (by omega), wr_nat (by omega)]; omega
          rw [if_neg e2]
          unfold fX4_unlike_j44
          rw [nm_q, nm_q, up1]
          rw [if_neg (by simp [z])] at hi
          exact hi
  have out : ∀ (d t f : Nat), t + d = 16 → d < f → fX4_unlike_l4 f ((cn (fun t => (bt r n).testBit t = true) t : Nat) : Int) (t : Int) M = some (((cn (fun t => (bt r n).testBit t = true) 16 : Nat) : Int), M) := by
    intro d
    induction d with
    | zero =>
      intro t f hs hf
      obtain ⟨f', rfl⟩ : ∃ f', f = f' + 1 := ⟨f - 1, by omega⟩
      have hsn : t = 16 := by omega
      subst hsn
      have e : wr 16 ≤ wr ((16 : Nat) : Int) := by decide
      unfold fX4_unlike_l4
      rw [if_pos e]
      rfl
    | succ d ih =>
      intro t f hs hf
      obtain ⟨f', rfl⟩ : ∃ f', f = f' + 1 := ⟨f - 1, by omega⟩
      have e : ¬ wr 16 ≤ wr (t : Int) := by rw [wl_16, wr_nat (by omega)]; omega
      have hi := ih (t + 1) f' (by omega) (by omega)
      have h0 := inn (fX4_unlike_l4 f') ((cn (fun t => (bt r n).testBit t = true) t : Nat) : Int) t (by omega) n 0 FU (by omega) (FU_gt (by omega))
      rw [show (bt r 0).testBit t = false by show (0 : Nat).testBit t = false; simp, if_neg (by decide)] at h0
      unfold fX4_unlike_l4
      rw [if_neg e, nm_q, nm_q]
      refine Eq.trans h0 ?_
      unfold fX4_unlike_j51 fX4_unlike_j61
      have ec : cn (fun t => (bt r n).testBit t = true) (t + 1) = cn (fun t => (bt r n).testBit t = true) t + (if (bt r n).testBit t = true then 1 else 0) := rfl
      rw [ec] at hi
      by_cases q : (bt r n).testBit t = true
      · rw [if_pos q] at hi
        rw [if_pos q, if_neg w1, nm_q, nm_q, up1, up1]
        exact hi
      · rw [if_neg q] at hi
        rw [if_neg q, if_pos wl_0, nm_q, nm_q, up1, Int.add_zero]
        exact hi
  unfold fX4_unlike
  rw [nm_q, nm_q]
  exact out 16 0 FU (by omega) (FU_gt (by omega))
theorem pr_all {R M : St} {n : Nat} {r p : Nat → Nat} (h : RR R M n r p) : ∃ v, fX1_priceOfAll R = some (v, R) ∧ fX4_allPrices M = some (v, M) := by
  have hn3 := h.2.2.1
  have key : ∀ (d s f f2 : Nat) (v : Int), s + d = n → d < f → d < f2 → ∃ v', fX1_priceOfAll_l4 f v (s : Int) R = some (v', R) ∧ fX4_allPrices_l4 f2 v (s : Int) M = some (v', M) := by
    intro d
    induction d with
    | zero =>
      intro s f f2 v hs hf hf2
      obtain ⟨f', rfl⟩ : ∃ f', f = f' + 1 := ⟨f - 1, by omega⟩
      obtain ⟨f2', rfl⟩ : ∃ f', f2 = f' + 1 := ⟨f2 - 1, by omega⟩
      have hsn : s = n := by omega
      subst hsn
      have e : wr (R.1 4) ≤ wr (s : Int) := by rw [h.1]; exact Int.le_refl _
      have e2 : wr (M.1 2) ≤ wr (s : Int) := by rw [h.2.1]; exact Int.le_refl _
      unfold fX1_priceOfAll_l4 fX4_allPrices_l4
      rw [if_pos e, if_pos e2]
      exact ⟨v, rfl, rfl⟩
    | succ d ih =>
      intro s f f2 v hs hf hf2
      obtain ⟨f', rfl⟩ : ∃ f', f = f' + 1 := ⟨f - 1, by omega⟩
      obtain ⟨f2', rfl⟩ : ∃ f', f2 = f' + 1 := ⟨f2 - 1, by omega⟩
      have e : ¬ wr (R.1 4) ≤ wr (s : Int) := by rw [h.1, wr_nat (by omega), wr_nat (by omega)]; omega
      have e2 : ¬ wr (M.1 2) ≤ wr (s : Int) := by rw [h.2.1, wr_nat (by omega), wr_nat (by omega)]; omega
      obtain ⟨hx, hx1, hx2⟩ := h.2.2.2.1 s (by omega)
      obtain ⟨-, -, hp1, hp2⟩ := h.2.2.2.2 (r s) hx
      have hs3 : s < 300 := by omega
      have epr : fX1_priceAt R (s : Int) = some ((p (r s) : Int), R) := by
        unfold fX1_priceAt
        rw [bd_n hs3, Int.toNat_natCast, hx1, bd_n hx, Int.toNat_natCast, hp1]
      obtain ⟨v', a1, a2⟩ := ih (s + 1) f' f2' (v + (p (r s) : Int)) (by omega) (by omega) (by omega)
      refine ⟨v', ?_, ?_⟩
      · unfold fX1_priceOfAll_l4
        rw [if_neg e, epr, cls_s, nm_q, nm_q, up1]
        exact a1
      · unfold fX4_allPrices_l4
        rw [if_neg e2, bd_n hs3, Int.toNat_natCast, hx2, bd_n hx, Int.toNat_natCast, hp2, nm_q, nm_q, up1]
        exact a2
  obtain ⟨v, a1, a2⟩ := key n 0 FU FU 0 (by omega) (FU_gt (by omega)) (FU_gt (by omega))
  exact ⟨v, by unfold fX1_priceOfAll; rw [nm_q, nm_q]; exact a1, by unfold fX4_allPrices; rw [nm_q, nm_q]; exact a2⟩
theorem call_many {J R U V T M : St} {a : Int} (h : Rel (J, R, U, V, T) M) (ha : wr a = a) : CA (fX3_many (J, R, U, V, T) a) (fX4_many M a) := by
  obtain ⟨n, r, p, h1, ⟨m, x1, x2, x3, x4⟩, h3, h4⟩ := id h
  unfold fX3_many fX4_many
  rw [ha]
  by_cases q0 : a = 0
  · rw [if_pos q0, if_pos q0, h1.2.1, show (J, R, U, V, T).2.1.1 4 = (n : Int) from h1.1]
    exact ⟨_, _, _, rfl, rfl, h⟩
  · rw [if_neg q0, if_neg q0]
    by_cases q1 : a = 1
    · rw [if_pos q1, if_pos q1, m_unlike h1.2.1 h1.2.2.1 (fun i hi => ⟨(h1.2.2.2.1 i hi).1, (h1.2.2.2.1 i hi).2.2⟩), c_unlike h1.1 h1.2.2.1 (fun i hi => ⟨(h1.2.2.2.1 i hi).1, (h1.2.2.2.1 i hi).2.1⟩), cls_s, cls_s]
      exact ⟨_, _, _, rfl, rfl, h⟩
    · rw [if_neg q1, if_neg q1]
      by_cases q2 : a = 2
      · rw [if_pos q2, if_pos q2, x3, show (J, R, U, V, T).1.1 8 = (m : Int) from x2]
        exact ⟨_, _, _, rfl, rfl, h⟩
      · rw [if_neg q2, if_neg q2]
        by_cases q3 : a = 3
        · obtain ⟨v, a1, a2⟩ := pr_all h1
          rw [if_pos q3, if_pos q3, a1, a2, cls_s, cls_s]
          exact ⟨_, _, _, rfl, rfl, h⟩
        · rw [if_neg q3, if_neg q3]
          exact ⟨_, _, _, rfl, rfl, h⟩
