/-! curve -/
theorem curve_loop {J R U V T M : St} {n : Nat} {r p : Nat → Nat} {a : Int} (h : RR R M n r p) (ha : wr a = a) (hRel : Rel (J, R, U, V, T) M) : ∀ (d s f f2 : Nat) (v : Int), s + d = n → d < f → d < f2 → CA (fX3_curve_l10 f a v (s : Int) (J, R, U, V, T)) (fX4_curve_l10 f2 a v (s : Int) M) := by
  have hn3 := h.2.2.1
  intro d
  induction d with
  | zero =>
    intro s f f2 v hs hf hf2
    obtain ⟨f', rfl⟩ : ∃ f', f = f' + 1 := ⟨f - 1, by omega⟩
    obtain ⟨f2', rfl⟩ : ∃ f', f2 = f' + 1 := ⟨f2 - 1, by omega⟩
    have hsn : s = n := by omega
    subst hsn
    have e : wr ((J, R, U, V, T).2.1.1 4) ≤ wr (s : Int) := by show wr (R.1 4) ≤ _; rw [h.1]; exact Int.le_refl _
    have e2 : wr (M.1 2) ≤ wr (s : Int) := by rw [h.2.1]; exact Int.le_refl _
    unfold fX3_curve_l10 fX4_curve_l10
    rw [if_pos e, if_pos e2]
    exact ⟨v, _, _, rfl, rfl, hRel⟩
  | succ d ih =>
    intro s f f2 v hs hf hf2
    obtain ⟨f', rfl⟩ : ∃ f', f = f' + 1 := ⟨f - 1, by omega⟩
    obtain ⟨f2', rfl⟩ : ∃ f', f2 = f' + 1 := ⟨f2 - 1, by omega⟩
    have e : ¬ wr ((J, R, U, V, T).2.1.1 4) ≤ wr (s : Int) := by show ¬ wr (R.1 4) ≤ _; rw [h.1, wr_nat (by omega), wr_nat (by omega)]; omega
    have e2 : ¬ wr (M.1 2) ≤ wr (s : Int) := by rw [h.2.1, wr_nat (by omega), wr_nat (by omega)]; omega
    obtain ⟨x, x1, x2, x3⟩ := dist_rel h (show s < n by omega)
    unfold fX3_curve_l10 fX4_curve_l10
    rw [if_neg e, if_neg e2, x3, show fX1_distanceAt (J, R, U, V, T).2.1 (s : Int) = _ from x2, cls_s, cls_s]
    unfold fX3_curve_j42 fX3_curve_j45 fX4_curve_j37 fX4_curve_j42
    simp only [nm_q]
    have i1 := ih (s + 1) f' f2' (v + 1) (by omega) (by omega) (by omega)
    have i0 := ih (s + 1) f' f2' v (by omega) (by omega) (by omega)
    rw [← up1 s] at i1 i0
    by_cases q : x = 0
    · have z : wr (x : Int) = 0 := by rw [q]; exact wl_0
      rw [if_pos z, if_pos z]
      exact i1
    · have z : ¬ wr (x : Int) = 0 := by rw [wr_nat (by omega)]; omega
      rw [if_neg z, if_neg z]
      by_cases y : wr (x : Int) ≤ wr a
      · rw [if_pos y, if_pos y, Int.add_zero]
        exact i0
      · rw [if_neg y, if_neg y]
        exact i1
theorem call_curve {J R U V T M : St} {a : Int} (h : Rel (J, R, U, V, T) M) (ha : wr a = a) : CA (fX3_curve (J, R, U, V, T) a) (fX4_curve M a) := by
  obtain ⟨n, r, p, h1, h2, h3, h4⟩ := id h
  have hn3 := h1.2.2.1
  unfold fX3_curve fX4_curve
  by_cases q : 0 ≤ wr a
  · rw [if_pos q, if_pos q]
    simp only [nm_q]
    exact curve_loop h1 ha h n 0 FU FU 0 (by omega) (FU_gt (by omega)) (FU_gt (by omega))
  · rw [if_neg q, if_neg q]
    exact ⟨-1, _, _, rfl, rfl, h⟩
