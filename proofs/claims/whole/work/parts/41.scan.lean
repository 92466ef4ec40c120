/-! the first of the least, found by one scan -/
def amin (c : Nat → Prop) [DecidablePred c] (l : Nat → Nat → Prop) [∀ a b, Decidable (l a b)] : Nat → Int
  | 0 => -1
  | t + 1 => if c t ∧ (amin c l t < 0 ∨ l t (amin c l t).toNat) then (t : Int) else amin c l t
theorem amin_b (c : Nat → Prop) [DecidablePred c] (l : Nat → Nat → Prop) [∀ a b, Decidable (l a b)] : ∀ t, -1 ≤ amin c l t ∧ amin c l t < (t : Int) ∧ (0 ≤ amin c l t → c (amin c l t).toNat) ∧ (amin c l t < 0 → ∀ u, u < t → ¬ c u) := by
  intro t
  induction t with
  | zero => exact ⟨Int.le_refl _, (by decide : (-1 : Int) < 0), fun h => absurd h (by show ¬ (0 : Int) ≤ -1; decide), fun _ u hu => by omega⟩
  | succ t ih =>
    obtain ⟨h1, h2, h3, h4⟩ := ih
    unfold amin
    by_cases h : c t ∧ (amin c l t < 0 ∨ l t (amin c l t).toNat)
    · rw [if_pos h]
      exact ⟨by omega, by omega, fun _ => h.1, fun q => by omega⟩
    · rw [if_neg h]
      refine ⟨h1, by omega, h3, fun q u hu => ?_⟩
      by_cases hu2 : u = t
      · subst hu2
        exact fun hc => h ⟨hc, Or.inl q⟩
      · exact h4 q u (by omega)
theorem amin_congr {c c' : Nat → Prop} [DecidablePred c] [DecidablePred c'] {l l' : Nat → Nat → Prop} [∀ a b, Decidable (l a b)] [∀ a b, Decidable (l' a b)] {n : Nat} (hc : ∀ t, t < n → (c t ↔ c' t)) (hl : ∀ t u, t < n → u < n → c t → c u → (l t u ↔ l' t u)) : ∀ t, t ≤ n → amin c l t = amin c' l' t := by
  intro t
  induction t with
  | zero => intro _; rfl
  | succ t ih =>
    intro ht
    have ih := ih (by omega)
    obtain ⟨h1, h2, h3, h4⟩ := amin_b c l t
    unfold amin
    rw [← ih]
    have he : (c t ∧ (amin c l t < 0 ∨ l t (amin c l t).toNat)) ↔ (c' t ∧ (amin c l t < 0 ∨ l' t (amin c l t).toNat)) := by
      constructor
      · rintro ⟨a, b⟩
        refine ⟨(hc t (by omega)).mp a, ?_⟩
        by_cases hn : amin c l t < 0
        · exact Or.inl hn
        · rcases b with b | b
          · exact Or.inl b
          · exact Or.inr ((hl _ _ (by omega) (by omega) a (h3 (by omega))).mp b)
      · rintro ⟨a, b⟩
        have a := (hc t (by omega)).mpr a
        refine ⟨a, ?_⟩
        by_cases hn : amin c l t < 0
        · exact Or.inl hn
        · rcases b with b | b
          · exact Or.inl b
          · exact Or.inr ((hl _ _ (by omega) (by omega) a (h3 (by omega))).mpr b)
    by_cases h : c t ∧ (amin c l t < 0 ∨ l t (amin c l t).toNat)
    · rw [if_pos h, if_pos (he.mp h)]
    · rw [if_neg h, if_neg (fun q => h (he.mpr q))]
theorem amin_s (c : Nat → Prop) [DecidablePred c] (l : Nat → Nat → Prop) [∀ a b, Decidable (l a b)] (t : Nat) : amin c l (t + 1) = if c t ∧ (amin c l t < 0 ∨ l t (amin c l t).toNat) then (t : Int) else amin c l t := rfl
theorem FU_gt {n : Nat} (h : n < 100000) : n < FU := Nat.lt_of_lt_of_le h FU_le
theorem scan_gen {O : Type} (lp : Nat → Int → Nat → Option O) (c : Nat → Prop) [DecidablePred c] (l : Nat → Nat → Prop) [∀ a b, Decidable (l a b)] (res : Int → Option O) (hend : ∀ f v, -1 ≤ v → v < 16 → (0 ≤ v → c v.toNat) → lp (f + 1) v 16 = res v) (hstep : ∀ f v (t : Nat), t < 16 → -1 ≤ v → v < (t : Int) → (0 ≤ v → c v.toNat) → lp (f + 1) v t = lp f (if c t ∧ (v < 0 ∨ l t v.toNat) then (t : Int) else v) (t + 1)) : lp FU (-1) 0 = res (amin c l 16) := by
  have key : ∀ (d f t : Nat), t + d = 16 → d < f → lp f (amin c l t) t = res (amin c l 16) := by
    intro d
    induction d with
    | zero =>
      intro f t ht hf
      obtain ⟨f, rfl⟩ : ∃ g, f = g + 1 := ⟨f - 1, by omega⟩
      have ht : t = 16 := ht
      subst ht
      obtain ⟨b1, b2, b3, -⟩ := amin_b c l 16
      exact hend f _ b1 b2 b3
    | succ d ih =>
      intro f t ht hf
      obtain ⟨f, rfl⟩ : ∃ g, f = g + 1 := ⟨f - 1, by omega⟩
      obtain ⟨b1, b2, b3, -⟩ := amin_b c l t
      rw [hstep f _ t (by omega) b1 b2 b3, ← amin_s]
      exact ih f (t + 1) (by omega) (by omega)
  exact key 16 FU 0 rfl (FU_gt (by decide))
theorem up1 (t : Nat) : ((t : Int) + 1) = ((t + 1 : Nat) : Int) := rfl
/-! the model's scans -/
theorem m_oldest {Y : St} (h1 : ∀ t, t < 16 → wr (Y.2 13 t) = Y.2 13 t) (h2 : ∀ t, t < 16 → Y.2 13 t ≠ 0 → wr (Y.2 14 t) = Y.2 14 t) : fX4_oldest Y = some (amin (fun t => Y.2 13 t ≠ 0) (fun t u => Y.2 14 t < Y.2 14 u) 16, Y) := by
  refine scan_gen (fun f v t => fX4_oldest_l4 f v (t : Int) Y) _ _ (fun v => some (v, Y)) (fun f v b1 b2 b3 => ?_) (fun f v t ht b1 b2 b3 => ?_)
  · simp only [fX4_oldest_l4, fX4_oldest_j50, wl_16, wr_nat (show 16 < 2147483648 by decide)]
    rw [if_pos (by decide)]
  · simp only [fX4_oldest_l4, fX4_oldest_j42, fX4_oldest_j43, fX4_oldest_j38, nm, wl_16, wr_nat (show t < 2147483648 by omega), Int.toNat_natCast, bd_n (show t < 16 by omega), h1 t (by omega), wr_id (show -2147483648 ≤ v ∧ v < 2147483648 by omega), up1]
    rw [if_neg (by omega)]
    by_cases hc : Y.2 13 t = 0
    · rw [if_pos hc, if_neg (fun q => q.1 hc)]
    · rw [if_neg hc]
      by_cases hv : v < 0
      · rw [if_pos hv, if_pos ⟨hc, Or.inl hv⟩]
      · rw [if_neg hv]
        simp only [bd_pos (show 0 ≤ v ∧ v < ((16 : Nat) : Int) by omega), h2 t (by omega) hc, h2 v.toNat (by omega) (b3 (by omega))]
        by_cases hl : Y.2 14 v.toNat ≤ Y.2 14 t
        · rw [if_pos hl, if_neg (by rintro ⟨-, q | q⟩ <;> omega)]
        · rw [if_neg hl, if_pos ⟨hc, Or.inr (by omega)⟩]
theorem m_firstIn {Y : St} {a : Int} (ha : wr a = a) (h1 : ∀ t, t < 16 → wr (Y.2 19 t) = Y.2 19 t) (h2 : ∀ t, t < 16 → Y.2 19 t = a → wr (Y.2 20 t) = Y.2 20 t) : fX4_firstIn Y a = some (amin (fun t => Y.2 19 t = a) (fun t u => Y.2 20 t < Y.2 20 u) 16, Y) := by
  refine scan_gen (fun f v t => fX4_firstIn_l4 f a v (t : Int) Y) _ _ (fun v => some (v, Y)) (fun f v b1 b2 b3 => ?_) (fun f v t ht b1 b2 b3 => ?_)
  · simp only [fX4_firstIn_l4, fX4_firstIn_j51, wl_16, wr_nat (show 16 < 2147483648 by decide)]
    rw [if_pos (by decide)]
  · simp only [fX4_firstIn_l4, fX4_firstIn_j43, fX4_firstIn_j44, fX4_firstIn_j39, nm, wl_16, ha, wr_nat (show t < 2147483648 by omega), Int.toNat_natCast, bd_n (show t < 16 by omega), h1 t (by omega), wr_id (show -2147483648 ≤ v ∧ v < 2147483648 by omega), up1]
    rw [if_neg (by omega)]
    by_cases hc : Y.2 19 t = a
    · rw [if_pos hc]
      by_cases hv : v < 0
      · rw [if_pos hv, if_pos ⟨hc, Or.inl hv⟩]
      · rw [if_neg hv]
        simp only [bd_pos (show 0 ≤ v ∧ v < ((16 : Nat) : Int) by omega), h2 t (by omega) hc, h2 v.toNat (by omega) (b3 (by omega))]
        by_cases hl : Y.2 20 v.toNat ≤ Y.2 20 t
        · rw [if_pos hl, if_neg (by rintro ⟨-, q | q⟩ <;> omega)]
        · rw [if_neg hl, if_pos ⟨hc, Or.inr (by omega)⟩]
    · rw [if_neg hc, if_neg (fun q => hc q.1)]
theorem m_resting {Y : St} {a b : Int} (ha : wr a = a) (hb : wr b = b) (h1 : ∀ t, t < 16 → wr (Y.2 13 t) = Y.2 13 t ∧ wr (Y.2 19 t) = Y.2 19 t ∧ wr (Y.2 17 t) = Y.2 17 t) (h2 : ∀ t, t < 16 → Y.2 13 t ≠ 0 → wr (Y.2 15 t) = Y.2 15 t) : fX4_resting Y a b = some (amin (fun t => Y.2 13 t ≠ 0 ∧ (a = 0 ∨ Y.2 19 t = a) ∧ (b = 0 ∨ Y.2 17 t = 0)) (fun t u => Y.2 15 t < Y.2 15 u) 16, Y) := by
  refine scan_gen (fun f v t => fX4_resting_l5 f a b v (t : Int) Y) _ _ (fun v => some (v, Y)) (fun f v b1 b2 b3 => ?_) (fun f v t ht b1 b2 b3 => ?_)
  · simp only [fX4_resting_l5, fX4_resting_j96, wl_16, wr_nat (show 16 < 2147483648 by decide)]
    rw [if_pos (by decide)]
  · obtain ⟨e1, e2, e3⟩ := h1 t (by omega)
    have hno : ∀ P : Prop, ¬ (Y.2 13 t ≠ 0 ∧ (a = 0 ∨ Y.2 19 t = a) ∧ (b = 0 ∨ Y.2 17 t = 0)) → ¬ ((Y.2 13 t ≠ 0 ∧ (a = 0 ∨ Y.2 19 t = a) ∧ (b = 0 ∨ Y.2 17 t = 0)) ∧ P) := fun P h q => h q.1
    have hyes : (Y.2 13 t ≠ 0 ∧ (a = 0 ∨ Y.2 19 t = a) ∧ (b = 0 ∨ Y.2 17 t = 0)) → (if v < 0 then fX4_resting_l5 f a b (t : Int) ((t + 1 : Nat) : Int) Y else (bd v 16 (if wr (Y.2 15 v.toNat) ≤ wr (Y.2 15 t) then fX4_resting_l5 f a b v ((t + 1 : Nat) : Int) Y else fX4_resting_l5 f a b (t : Int) ((t + 1 : Nat) : Int) Y))) = fX4_resting_l5 f a b (if (Y.2 13 t ≠ 0 ∧ (a = 0 ∨ Y.2 19 t = a) ∧ (b = 0 ∨ Y.2 17 t = 0)) ∧ (v < 0 ∨ Y.2 15 t < Y.2 15 v.toNat) then (t : Int) else v) ((t + 1 : Nat) : Int) Y := by
      intro hc
      by_cases hv : v < 0
      · rw [if_pos hv, if_pos ⟨hc, Or.inl hv⟩]
      · rw [if_neg hv]
        simp only [bd_pos (show 0 ≤ v ∧ v < ((16 : Nat) : Int) by omega), h2 t (by omega) hc.1, h2 v.toNat (by omega) (b3 (by omega)).1]
        by_cases hl : Y.2 15 v.toNat ≤ Y.2 15 t
        · rw [if_pos hl, if_neg (by rintro ⟨-, q | q⟩ <;> omega)]
        · rw [if_neg hl, if_pos ⟨hc, Or.inr (by omega)⟩]
    simp only [fX4_resting_l5, fX4_resting_j88, fX4_resting_j89, fX4_resting_j83, fX4_resting_j56, fX4_resting_j55, fX4_resting_j51, fX4_resting_j37, nm, wl_16, wl_0, wl_1, ha, hb, wr_nat (show t < 2147483648 by omega), Int.toNat_natCast, bd_n (show t < 16 by omega), e1, e2, e3, wr_id (show -2147483648 ≤ v ∧ v < 2147483648 by omega), up1, ↓reduceIte, Int.one_ne_zero]
    rw [if_neg (by omega)]
    by_cases c1 : Y.2 13 t = 0
    · rw [if_pos c1, if_neg (hno _ (fun q => q.1 c1))]
    · rw [if_neg c1]
      by_cases c2 : a = 0
      · rw [if_pos c2]
        by_cases c3 : b = 0
        · rw [if_pos c3]; exact hyes ⟨c1, Or.inl c2, Or.inl c3⟩
        · rw [if_neg c3]
          by_cases c4 : Y.2 17 t = 0
          · rw [if_pos c4]; exact hyes ⟨c1, Or.inl c2, Or.inr c4⟩
          · rw [if_neg c4, if_neg (hno _ (fun q => by rcases q.2.2 with z | z <;> contradiction))]
      · rw [if_neg c2]
        by_cases c5 : Y.2 19 t = a
        · rw [if_pos c5]
          by_cases c3 : b = 0
          · rw [if_pos c3]; exact hyes ⟨c1, Or.inr c5, Or.inl c3⟩
          · rw [if_neg c3]
            by_cases c4 : Y.2 17 t = 0
            · rw [if_pos c4]; exact hyes ⟨c1, Or.inr c5, Or.inr c4⟩
            · rw [if_neg c4, if_neg (hno _ (fun q => by rcases q.2.2 with z | z <;> contradiction))]
        · rw [if_neg c5, if_neg (hno _ (fun q => by rcases q.2.1 with z | z <;> contradiction))]
theorem m_least_counts {Y : St} (h1 : ∀ t, t < 16 → wr (Y.2 13 t) = Y.2 13 t) (h2 : ∀ t, t < 16 → Y.2 13 t ≠ 0 → wr (Y.2 15 t) = Y.2 15 t ∧ wr (Y.2 16 t) = Y.2 16 t) : fX4_least_counts Y = some (amin (fun t => Y.2 13 t ≠ 0) (fun t u => Y.2 16 t < Y.2 16 u ∨ (Y.2 16 t = Y.2 16 u ∧ Y.2 15 t < Y.2 15 u)) 16, Y) := by
  refine scan_gen (fun f v t => fX4_least_counts_l4 f v (t : Int) Y) _ _ (fun v => some (v, Y)) (fun f v b1 b2 b3 => ?_) (fun f v t ht b1 b2 b3 => ?_)
  · simp only [fX4_least_counts_l4, fX4_least_counts_j80, wl_16, wr_nat (show 16 < 2147483648 by decide)]
    rw [if_pos (by decide)]
  · simp only [fX4_least_counts_l4, fX4_least_counts_j73, fX4_least_counts_j61, fX4_least_counts_j60, fX4_least_counts_j56, nm, wl_16, wl_0, wl_1, wr_nat (show t < 2147483648 by omega), Int.toNat_natCast, bd_n (show t < 16 by omega), h1 t (by omega), wr_id (show -2147483648 ≤ v ∧ v < 2147483648 by omega), up1, ↓reduceIte, Int.one_ne_zero]
    rw [if_neg (by omega)]
    by_cases hc : Y.2 13 t = 0
    · rw [if_pos hc, if_neg (fun q => q.1 hc)]
    · rw [if_neg hc]
      by_cases hv : v < 0
      · rw [if_pos hv, if_pos ⟨hc, Or.inl hv⟩]
      · obtain ⟨g1, g2⟩ := h2 t (by omega) hc
        obtain ⟨g3, g4⟩ := h2 v.toNat (by omega) (b3 (by omega))
        rw [if_neg hv]
        simp only [bd_pos (show 0 ≤ v ∧ v < ((16 : Nat) : Int) by omega), g1, g2, g3, g4]
        by_cases l1 : Y.2 16 t < Y.2 16 v.toNat
        · rw [if_pos l1, if_pos ⟨hc, Or.inr (Or.inl l1)⟩]
        · rw [if_neg l1]
          by_cases l2 : Y.2 16 t = Y.2 16 v.toNat
          · rw [if_pos l2]
            by_cases l3 : Y.2 15 v.toNat ≤ Y.2 15 t
            · rw [if_pos l3, if_neg (by rintro ⟨-, q | q | q⟩ <;> omega)]
            · rw [if_neg l3, if_pos ⟨hc, Or.inr (Or.inr ⟨l2, by omega⟩)⟩]
          · rw [if_neg l2, if_neg (by rintro ⟨-, q | q | q⟩ <;> omega)]
theorem m_least_credit {Y : St} (h1 : ∀ t, t < 16 → wr (Y.2 13 t) = Y.2 13 t) (h2 : ∀ t, t < 16 → Y.2 13 t ≠ 0 → wr (Y.2 15 t) = Y.2 15 t ∧ wr (Y.2 21 t) = Y.2 21 t) : fX4_least_credit Y = some (amin (fun t => Y.2 13 t ≠ 0) (fun t u => Y.2 21 t < Y.2 21 u ∨ (Y.2 21 t = Y.2 21 u ∧ Y.2 15 t < Y.2 15 u)) 16, Y) := by
  refine scan_gen (fun f v t => fX4_least_credit_l4 f v (t : Int) Y) _ _ (fun v => some (v, Y)) (fun f v b1 b2 b3 => ?_) (fun f v t ht b1 b2 b3 => ?_)
  · simp only [fX4_least_credit_l4, fX4_least_credit_j80, wl_16, wr_nat (show 16 < 2147483648 by decide)]
    rw [if_pos (by decide)]
  · simp only [fX4_least_credit_l4, fX4_least_credit_j73, fX4_least_credit_j61, fX4_least_credit_j60, fX4_least_credit_j56, nm, wl_16, wl_0, wl_1, wr_nat (show t < 2147483648 by omega), Int.toNat_natCast, bd_n (show t < 16 by omega), h1 t (by omega), wr_id (show -2147483648 ≤ v ∧ v < 2147483648 by omega), up1, ↓reduceIte, Int.one_ne_zero]
    rw [if_neg (by omega)]
    by_cases hc : Y.2 13 t = 0
    · rw [if_pos hc, if_neg (fun q => q.1 hc)]
    · rw [if_neg hc]
      by_cases hv : v < 0
      · rw [if_pos hv, if_pos ⟨hc, Or.inl hv⟩]
      · obtain ⟨g1, g2⟩ := h2 t (by omega) hc
        obtain ⟨g3, g4⟩ := h2 v.toNat (by omega) (b3 (by omega))
        rw [if_neg hv]
        simp only [bd_pos (show 0 ≤ v ∧ v < ((16 : Nat) : Int) by omega), g1, g2, g3, g4]
        by_cases l1 : Y.2 21 t < Y.2 21 v.toNat
        · rw [if_pos l1, if_pos ⟨hc, Or.inr (Or.inl l1)⟩]
        · rw [if_neg l1]
          by_cases l2 : Y.2 21 t = Y.2 21 v.toNat
          · rw [if_pos l2]
            by_cases l3 : Y.2 15 v.toNat ≤ Y.2 15 t
            · rw [if_pos l3, if_neg (by rintro ⟨-, q | q | q⟩ <;> omega)]
            · rw [if_neg l3, if_pos ⟨hc, Or.inr (Or.inr ⟨l2, by omega⟩)⟩]
          · rw [if_neg l2, if_neg (by rintro ⟨-, q | q | q⟩ <;> omega)]
