/-! share: the hits are counted alike -/
theorem sm_hits {H : Nat → Int} : ∀ n : Nat, sm (fun i => 1 - H i) n = (n : Int) - sm H n := by
  intro n
  induction n with
  | zero => rfl
  | succ n ih =>
    show sm (fun i => 1 - H i) n + (1 - H n) = ((n + 1 : Nat) : Int) - (sm H n + H n)
    rw [ih]
    omega
theorem m_share {M : St} {n : Nat} {r p : Nat → Nat} {J R : St} (h : RR R M n r p) (hJ : JV J r p n) (u : ∀ i, i < n → M.2 6 i = J.2 6 i ∧ M.2 7 i = J.2 7 i) : fX4_share_l23 FU 0 0 M = fX4_share_j46 ((n : Int) - J.1 9) M := by
  have hn3 := h.2.2.1
  have e9 : (n : Int) - J.1 9 = sm (fun i => J.2 6 i) n := by rw [hJ.2.1, sm_hits]; show (n : Int) - ((n : Int) - sm (fun i => J.2 6 i) n) = _; omega
  have key : ∀ (d s f : Nat), s + d = n → d < f → fX4_share_l23 f (sm (fun i => J.2 6 i) s) (s : Int) M = fX4_share_j46 (sm (fun i => J.2 6 i) n) M := by
    intro d
    induction d with
    | zero =>
      intro s f hs hf
      obtain ⟨f', rfl⟩ : ∃ f', f = f' + 1 := ⟨f - 1, by omega⟩
      have hsn : s = n := by omega
      subst hsn
      have e : wr (M.1 2) ≤ wr (s : Int) := by rw [h.2.1]; exact Int.le_refl _
      unfold fX4_share_l23
      rw [if_pos e]
    | succ d ih =>
      intro s f hs hf
      obtain ⟨f', rfl⟩ : ∃ f', f = f' + 1 := ⟨f - 1, by omega⟩
      have e : ¬ wr (M.1 2) ≤ wr (s : Int) := by rw [h.2.1, wr_nat (by omega), wr_nat (by omega)]; omega
      unfold fX4_share_l23
      rw [if_neg e, bd_n (show s < 300 by omega), Int.toNat_natCast, (u s (by omega)).1, nm_q, nm_q, up1]
      exact ih (s + 1) f' (by omega) (by omega)
  rw [e9]
  exact key n 0 FU (by omega) (FU_gt (by omega))
theorem call_share_of {J R U V T M : St} (h : Rel (J, R, U, V, T) M) (hf : ∀ x n : Nat, x ≤ n → 1 ≤ n → n ≤ 300 → ∃ v, ∀ {O : Type} (F : Int → Option O), cf (FP.fdiv (FP.i2f (iz (x : Int))) (FP.i2f (iz (n : Int)))) (cf (FP.fmul (FP.fdiv (FP.i2f (iz (x : Int))) (FP.i2f (iz (n : Int)))) 1176256512) (F (f2iI (FP.fmul (FP.fdiv (FP.i2f (iz (x : Int))) (FP.i2f (iz (n : Int)))) 1176256512)))) = F v) : CA (fX3_share (J, R, U, V, T)) (fX4_share M) := by
  obtain ⟨n, r, p, h1, h2, h3, h4⟩ := id h
  have hn3 := h1.2.2.1
  unfold fX3_share fX4_share
  rcases h3 with ⟨x, y⟩ | ⟨x, y, z, u, -⟩
  · rw [show (J, R, U, V, T).1.1 11 = 0 from x, y, if_pos wl_0, if_pos wl_0]
    exact ⟨-3, _, _, rfl, rfl, h⟩
  · rw [show (J, R, U, V, T).1.1 11 = 1 from x, y, if_neg w1, if_neg w1, show (J, R, U, V, T).2.1.1 4 = (n : Int) from h1.1, h1.2.1]
    by_cases q : 1 ≤ n
    · have e1 : wr 1 ≤ wr (n : Int) := by rw [wl_1, wr_nat (by omega)]; omega
      have e2 : ¬ wr (n : Int) = 0 := by rw [wr_nat (by omega)]; omega
      rw [if_pos e1, if_neg e2, nm_q, nm_q, nm_q, m_share h1 z u]
      have hb := sm_b (f := fun i => 1 - J.2 6 i) (b := 1) n (fun i hi => by have hh : J.2 6 i = 0 ∨ J.2 6 i = 1 := (z.1 i hi).1; show 0 ≤ 1 - J.2 6 i ∧ 1 - J.2 6 i ≤ 1; omega)
      have z9 : J.1 9 = sm (fun i => 1 - J.2 6 i) n := z.2.1
      obtain ⟨t, ht⟩ := nat_of (show 0 ≤ (n : Int) - J.1 9 by omega)
      obtain ⟨v, hv⟩ := hf t n (by omega) q hn3
      unfold fX4_share_j46
      rw [show (J, R, U, V, T).1.1 9 = J.1 9 from rfl, h1.2.1, ht]
      exact ⟨v, _, _, hv (fun a => some (a, (J, R, U, V, T))), hv (fun a => some (a, M)), h⟩
    · have e1 : ¬ wr 1 ≤ wr (n : Int) := by rw [wl_1, wr_nat (by omega)]; omega
      have e2 : wr (n : Int) = 0 := by rw [wr_nat (by omega)]; omega
      rw [if_neg e1, if_pos e2]
      exact ⟨-1, _, _, rfl, rfl, h⟩
