/-! the judge's table: the numbers of things -/
def TN (T : St) (r : Nat → Nat) (n t : Nat) : Prop := T.1 8 = ((bo r n t : Nat) : Int) ∧ ∀ x, x < t → (bt r n).testBit x = true → T.2 1 x = ((bo r n x : Nat) : Int) ∧ T.2 2 (bo r n x) = (x : Int)
def FN (T T' : St) : Prop := (∀ j, j ≠ 8 → T'.1 j = T.1 j) ∧ ∀ a x, a ≠ 1 → a ≠ 2 → T'.2 a x = T.2 a x
theorem FN_tr {A B C : St} (h : FN A B) (g : FN B C) : FN A C := ⟨fun j hj => (g.1 j hj).trans (h.1 j hj), fun a x p q => (g.2 a x p q).trans (h.2 a x p q)⟩
theorem c_num_l {R : St} {r : Nat → Nat} {n : Nat} (hu : bo r n 16 ≤ 10) (hB : bt r n < 65536) : ∀ (d t f : Nat) (T : St), TN T r n t → t + d = 16 → d < f → ∃ T', fX0_numberThings_l15 f ((bt r n : Nat) : Int) (t : Int) (T, R) = some (T', R) ∧ TN T' r n 16 ∧ FN T T' := by
  intro d
  induction d with
  | zero =>
    intro t f T h hs hf
    obtain ⟨f', rfl⟩ : ∃ f', f = f' + 1 := ⟨f - 1, by omega⟩
    have hsn : t = 16 := by omega
    subst hsn
    have e : wr 16 ≤ wr ((16 : Nat) : Int) := by decide
    refine ⟨T, ?_, h, fun _ _ => rfl, fun _ _ _ _ => rfl⟩
    unfold fX0_numberThings_l15
    rw [if_pos e]
  | succ d ih =>
    intro t f T h hs hf
    obtain ⟨f', rfl⟩ : ∃ f', f = f' + 1 := ⟨f - 1, by omega⟩
    have ht : t < 16 := by omega
    have e : ¬ wr 16 ≤ wr (t : Int) := by rw [wl_16, wr_nat (by omega)]; omega
    have hb := wr_bit (a := bt r n) (t := t) (by omega) (by omega)
    have ec : bo r n (t + 1) = bo r n t + (if (bt r n).testBit t = true then 1 else 0) := rfl
    by_cases q : (bt r n).testBit t = true
    · rw [if_pos q] at ec
      have hlt := bo_lt ht q
      have hT1 : TN (setI (setA (setA T 1 t (T.1 8)) 2 (T.1 8).toNat (t : Int)) 8 (T.1 8 + 1)) r n (t + 1) := by
        refine ⟨?_, fun x hx hbx => ?_⟩
        · rw [sI1, if_pos rfl, h.1, ec]; omega
        · simp only [sI2, sA2, ↓reduceIte, Nat.reduceEqDiff]
          rw [h.1, Int.toNat_natCast]
          by_cases z : x = t
          · rw [if_pos z, z, if_pos rfl]; exact ⟨rfl, rfl⟩
          · have hxt : bo r n x < bo r n t := cn_lt (by omega) hbx
            rw [if_neg z, if_neg (by omega)]
            exact h.2 x (by omega) hbx
      have hF1 : FN T (setI (setA (setA T 1 t (T.1 8)) 2 (T.1 8).toNat (t : Int)) 8 (T.1 8 + 1)) := by
        refine ⟨fun j hj => ?_, fun a x h1 h2 => ?_⟩
        · rw [sI1, if_neg hj]; rfl
        · rw [sI2, sA2, sA2, if_neg h2, if_neg h1]
      obtain ⟨T', g1, g2, g3⟩ := ih (t + 1) f' _ hT1 (by omega) (by omega)
      refine ⟨T', ?_, g2, FN_tr hF1 g3⟩
      have nb : ¬ wr (andI ((bt r n : Nat) : Int) (shlI 1 (t : Int))) = 0 := fun z => by rw [hb.mp z] at q; cases q
      have e2 : ¬ wr 10 ≤ wr ((T, R).1.1 8) := by show ¬ wr 10 ≤ wr (T.1 8); rw [h.1, wl_10, wr_nat (by omega)]; omega
      unfold fX0_numberThings_l15
      rw [if_neg e, if_neg nb, if_neg e2, bd_n ht, Int.toNat_natCast, nm_q]
      show bd (T.1 8) 16 _ = _
      rw [bd_pos (show 0 ≤ T.1 8 ∧ T.1 8 < ((16 : Nat) : Int) by rw [h.1]; omega)]
      unfold fX0_numberThings_j68
      exact g1
    · rw [if_neg q] at ec
      have hT1 : TN T r n (t + 1) := by
        refine ⟨by rw [h.1, ec]; rfl, fun x hx hbx => ?_⟩
        by_cases z : x = t
        · rw [z] at hbx; exact absurd hbx q
        · exact h.2 x (by omega) hbx
      obtain ⟨T', g1, g2, g3⟩ := ih (t + 1) f' _ hT1 (by omega) (by omega)
      refine ⟨T', ?_, g2, g3⟩
      have nb : wr (andI ((bt r n : Nat) : Int) (shlI 1 (t : Int))) = 0 := hb.mpr (by simpa using q)
      unfold fX0_numberThings_l15 fX0_numberThings_j68
      rw [if_neg e, if_pos nb, nm_q, up1]
      exact g1
theorem c_number {T R M : St} {n : Nat} {r p : Nat → Nat} (h : RR R M n r p) (hu : bo r n 16 ≤ 10) : ∃ T', fX0_numberThings (T, R) = some (T', R) ∧ TN T' r n 16 ∧ FN T T' := by
  have hn3 := h.2.2.1
  have hr : ∀ i, i < n → r i < 16 ∧ R.2 0 i = (r i : Int) := fun i hi => ⟨(h.2.2.2.1 i hi).1, (h.2.2.2.1 i hi).2.1⟩
  obtain ⟨T', g1, g2, g3⟩ := c_num_l (R := R) hu (bt_lt n fun j hj => (hr j hj).1) 16 0 FU (setI T 8 0) ⟨rfl, fun x hx => absurd hx (Nat.not_lt_zero _)⟩ (by omega) (FU_gt (by omega))
  have hF0 : FN T (setI T 8 0) := ⟨fun j hj => by rw [sI1, if_neg hj], fun _ _ _ _ => rfl⟩
  refine ⟨T', ?_, g2, FN_tr hF0 g3⟩
  unfold fX0_numberThings
  rw [show fX1_bits (T, R).2 = some (((bt r n : Nat) : Int), R) from c_bits h.1 hn3 hr, cls_s, nm_q, nm_q, nm_q]
  exact g1
/-! the full masks -/
def fc (k m : Nat) : Nat := cn (fun S => pc S = k) m
def fcN (k : Nat) : Nat → Nat
  | 0 => 0
  | m + 1 => fcN k m + (bif Nat.beq (popN m) k then 1 else 0)
theorem fcN_t : ∀ k : Fin 9, fcN k.val 1024 ≤ 252 := by decide +kernel
theorem fc_N (k : Nat) : ∀ m, fc k m = fcN k m := by
  intro m
  induction m with
  | zero => rfl
  | succ m ih =>
    show fc k m + (if pc m = k then 1 else 0) = fcN k m + (bif Nat.beq (popN m) k then 1 else 0)
    rw [ih, popN_cn]
    show fcN k m + (if pc m = k then 1 else 0) = fcN k m + (bif Nat.beq (pc m) k then 1 else 0)
    by_cases q : pc m = k
    · rw [if_pos q, q, Nat.beq_refl]; rfl
    · rw [if_neg q, show Nat.beq (pc m) k = false from by
        cases z : Nat.beq (pc m) k
        · rfl
        · exact absurd (Nat.eq_of_beq_eq_true z) q]
      rfl
theorem fc_le {k m : Nat} (hk : k ≤ 8) (hm : m ≤ 1024) : fc k m ≤ 252 := by
  have h1 := cn_grow (fun S => pc S = k) m (1024 - m)
  rw [show m + (1024 - m) = 1024 by omega] at h1
  have h2 := fcN_t ⟨k, by omega⟩
  rw [← fc_N] at h2
  exact Nat.le_trans h1 h2
theorem fc_lt {k m x : Nat} (hx : x < m) (h : pc x = k) : fc k x < fc k m := cn_lt (c := fun S => pc S = k) hx h
theorem fc_inj {k x y : Nat} (hx : pc x = k) (hy : pc y = k) (h : fc k x = fc k y) : x = y := cn_inj (c := fun S => pc S = k) hx hy h
def TL (T : St) (k m : Nat) : Prop := T.1 9 = ((fc k m : Nat) : Int) ∧ ∀ x, x < m → T.2 5 x = 0 ∧ (pc x = k → T.2 4 x = ((fc k x : Nat) : Int) ∧ T.2 3 (fc k x) = (x : Int))
def FL (T T' : St) : Prop := (∀ j, j ≠ 9 → T'.1 j = T.1 j) ∧ ∀ a x, a ≠ 3 → a ≠ 4 → a ≠ 5 → T'.2 a x = T.2 a x
theorem FL_tr {A B C : St} (h : FL A B) (g : FL B C) : FL A C := ⟨fun j hj => (g.1 j hj).trans (h.1 j hj), fun a x p q s => (g.2 a x p q s).trans (h.2 a x p q s)⟩
theorem c_list_l {R : St} {k u : Nat} (hu : u ≤ 10) (hk : k ≤ 8) : ∀ (d m f : Nat) (T : St), T.1 8 = (u : Int) → T.1 10 = (k : Int) → TL T k m → m + d = 2 ^ u → d < f → ∃ T', fX0_listFullMasks_l7 f (m : Int) (T, R) = some (T', R) ∧ TL T' k (2 ^ u) ∧ FL T T' := by
  have h1024 := pu hu
  intro d
  induction d with
  | zero =>
    intro m f T h8 h10 h hs hf
    obtain ⟨f', rfl⟩ : ∃ f', f = f' + 1 := ⟨f - 1, by omega⟩
    have hsn : m = 2 ^ u := by omega
    have e : wr (shlI 1 ((T, R).1.1 8)) ≤ wr (m : Int) := by show wr (shlI 1 (T.1 8)) ≤ _; rw [h8, shl1 (by omega), hsn]; exact Int.le_refl _
    refine ⟨T, ?_, hsn ▸ h, fun _ _ => rfl, fun _ _ _ _ _ => rfl⟩
    unfold fX0_listFullMasks_l7
    rw [if_pos e]
  | succ d ih =>
    intro m f T h8 h10 h hs hf
    obtain ⟨f', rfl⟩ : ∃ f', f = f' + 1 := ⟨f - 1, by omega⟩
    have hm : m < 2 ^ u := by omega
    have hm2 : m < 1024 := by omega
    have e : ¬ wr (shlI 1 ((T, R).1.1 8)) ≤ wr (m : Int) := by show ¬ wr (shlI 1 (T.1 8)) ≤ _; rw [h8, shl1 (by omega), wr_nat (by omega), wr_nat (by omega)]; omega
    have ec : fc k (m + 1) = fc k m + (if pc m = k then 1 else 0) := rfl
    have hp := pc_le m
    by_cases q : pc m = k
    · rw [if_pos q] at ec
      have h252 := fc_le (k := k) (m := m + 1) hk (by omega)
      have hT1 : TL (setI (setA (setA (setA T 5 m 0) 3 (T.1 9).toNat (m : Int)) 4 m (T.1 9)) 9 (T.1 9 + 1)) k (m + 1) := by
        refine ⟨?_, fun x hx => ⟨?_, fun hx2 => ?_⟩⟩
        · rw [sI1, if_pos rfl, h.1, ec]; omega
        · simp only [sI2, sA2, ↓reduceIte, Nat.reduceEqDiff]
          by_cases z : x = m
          · rw [if_pos z]
          · rw [if_neg z]; exact (h.2 x (by omega)).1
        · simp only [sI2, sA2, ↓reduceIte, Nat.reduceEqDiff]
          rw [h.1, Int.toNat_natCast]
          by_cases z : x = m
          · rw [if_pos z, z, if_pos rfl]; exact ⟨rfl, rfl⟩
          · have hxt : fc k x < fc k m := fc_lt (by omega) hx2
            rw [if_neg z, if_neg (by omega)]
            exact (h.2 x (by omega)).2 hx2
      have hF1 : FL T (setI (setA (setA (setA T 5 m 0) 3 (T.1 9).toNat (m : Int)) 4 m (T.1 9)) 9 (T.1 9 + 1)) := by
        refine ⟨fun j hj => ?_, fun a x h1 h2 h3 => ?_⟩
        · rw [sI1, if_neg hj]; rfl
        · rw [sI2, sA2, sA2, sA2, if_neg h2, if_neg h1, if_neg h3]
      obtain ⟨T', g1, g2, g3⟩ := ih (m + 1) f' _ ((hF1.1 8 (by decide)).trans h8) ((hF1.1 10 (by decide)).trans h10) hT1 (by omega) (by omega)
      refine ⟨T', ?_, g2, FL_tr hF1 g3⟩
      have e2 : wr ((pc m : Nat) : Int) = wr ((setA (T, R).1 5 m 0, (T, R).2).1.1 10) := by show _ = wr (T.1 10); rw [h10, q]
      have e3 : ¬ wr 252 ≤ wr ((setA (T, R).1 5 m 0, (T, R).2).1.1 9) := by show ¬ wr 252 ≤ wr (T.1 9); rw [h.1, wl_252, wr_nat (by omega)]; omega
      unfold fX0_listFullMasks_l7
      rw [if_neg e, bd_n hm2, Int.toNat_natCast, nm_q, e_pc (by omega), clp_s, if_pos e2, if_neg e3]
      show bd (T.1 9) 252 _ = _
      rw [bd_pos (show 0 ≤ T.1 9 ∧ T.1 9 < ((252 : Nat) : Int) by rw [h.1]; omega), nm_q, bd_n hm2]
      unfold fX0_listFullMasks_j75
      exact g1
    · rw [if_neg q] at ec
      have hT1 : TL (setA T 5 m 0) k (m + 1) := by
        refine ⟨by show T.1 9 = _; rw [h.1, ec]; rfl, fun x hx => ⟨?_, fun hx2 => ?_⟩⟩
        · rw [sA2, if_pos rfl]
          by_cases z : x = m
          · rw [if_pos z]
          · rw [if_neg z]; exact (h.2 x (by omega)).1
        · simp only [sA2, ↓reduceIte, Nat.reduceEqDiff]
          by_cases z : x = m
          · rw [z] at hx2; exact absurd hx2 q
          · exact (h.2 x (by omega)).2 hx2
      obtain ⟨T', g1, g2, g3⟩ := ih (m + 1) f' (setA T 5 m 0) h8 h10 hT1 (by omega) (by omega)
      have hF1 : FL T (setA T 5 m 0) := ⟨fun _ _ => rfl, fun a x h1 h2 h3 => by rw [sA2, if_neg h3]⟩
      refine ⟨T', ?_, g2, FL_tr hF1 g3⟩
      have e2 : ¬ wr ((pc m : Nat) : Int) = wr ((setA (T, R).1 5 m 0, (T, R).2).1.1 10) := by show ¬ _ = wr (T.1 10); rw [h10, wr_nat (by omega), wr_nat (by omega)]; omega
      unfold fX0_listFullMasks_l7
      rw [if_neg e, bd_n hm2, Int.toNat_natCast, nm_q, e_pc (by omega), clp_s, if_neg e2]
      unfold fX0_listFullMasks_j75
      exact g1
theorem c_list {T R : St} {k u : Nat} (hu : u ≤ 10) (hk : k ≤ 8) (h8 : T.1 8 = (u : Int)) (h10 : T.1 10 = (k : Int)) : ∃ T', fX0_listFullMasks (T, R) = some (T', R) ∧ TL T' k (2 ^ u) ∧ FL T T' := by
  have h1024 := pu hu
  obtain ⟨T', g1, g2, g3⟩ := c_list_l (R := R) hu hk (2 ^ u) 0 FU (setI T 9 0) h8 h10 ⟨rfl, fun x hx => absurd hx (Nat.not_lt_zero _)⟩ (by omega) (FU_gt (by omega))
  have hF0 : FL T (setI T 9 0) := ⟨fun j hj => by rw [sI1, if_neg hj], fun _ _ _ _ _ => rfl⟩
  refine ⟨T', ?_, g2, FL_tr hF0 g3⟩
  unfold fX0_listFullMasks
  rw [nm_q, nm_q]
  exact g1
