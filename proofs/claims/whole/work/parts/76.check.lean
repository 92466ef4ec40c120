/-! check -/
theorem chk_loop {J U T : St} {n : Nat} {r p : Nat → Nat} {w k : Nat} : ∀ (d s f f2 ly : Nat) (R V M : St), SH V R M n r p w k s ly (fun q => q < ly) → RelA J R U T M n r p → s + d = n → d < f → d < f2 → CA (fX3_check_l28 f (s : Int) (J, R, U, V, T)) (fX4_check_l31 f2 (s : Int) M) := by
  intro d
  induction d with
  | zero =>
    intro s f f2 ly R V M h hA hs hf hf2
    obtain ⟨f', rfl⟩ : ∃ f', f = f' + 1 := ⟨f - 1, by omega⟩
    obtain ⟨f2', rfl⟩ : ∃ f', f2 = f' + 1 := ⟨f2 - 1, by omega⟩
    have hsn : s = n := by omega
    subst hsn
    obtain ⟨m, x1, x2, x3, x4⟩ := hA.2.1
    have e : wr ((J, R, U, V, T).2.1.1 4) ≤ wr (s : Int) := by show wr (R.1 4) ≤ _; rw [h.1.1]; exact Int.le_refl _
    have e2 : wr (M.1 2) ≤ wr (s : Int) := by rw [h.1.2.1]; exact Int.le_refl _
    unfold fX3_check_l28 fX4_check_l31
    rw [if_pos e, if_pos e2]
    unfold fX3_check_j71 fX4_check_j73
    rw [show (J, R, U, V, T).1.1 8 = (m : Int) from x2, x3, show (J, R, U, V, T).2.1.1 4 = (s : Int) from h.1.1, h.1.2.1]
    by_cases q : wr (m : Int) ≤ wr (s : Int)
    · rw [if_pos q, if_pos q]
      exact ⟨-1, _, _, rfl, rfl, s, r, p, hA⟩
    · rw [if_neg q, if_neg q]
      exact ⟨(s : Int), _, _, rfl, rfl, s, r, p, hA⟩
  | succ d ih =>
    intro s f f2 ly R V M h hA hs hf hf2
    obtain ⟨f', rfl⟩ : ∃ f', f = f' + 1 := ⟨f - 1, by omega⟩
    obtain ⟨f2', rfl⟩ : ∃ f', f2 = f' + 1 := ⟨f2 - 1, by omega⟩
    have hn3 := h.1.2.2.1
    obtain ⟨m, x1, x2, x3, x4⟩ := hA.2.1
    have e : ¬ wr ((J, R, U, V, T).2.1.1 4) ≤ wr (s : Int) := by show ¬ wr (R.1 4) ≤ _; rw [h.1.1, wr_nat (by omega), wr_nat (by omega)]; omega
    have e2 : ¬ wr (M.1 2) ≤ wr (s : Int) := by rw [h.1.2.1, wr_nat (by omega), wr_nat (by omega)]; omega
    obtain ⟨V1, M1, g, ly', s1, s2, s3, s4, s5, s6, s7, s8, s9⟩ := step_rel h (show s < n by omega)
    have hA1 := RelA_fr hA s9
    have m9 : M1.1 9 = (m : Int) := (s9.1 9 (by decide)).trans x3
    have hs3 : s < 300 := by omega
    unfold fX3_check_l28 fX4_check_l31
    rw [if_neg e, if_neg e2, s2, clv_s, m9, show (J, R, U, V, T).1.1 8 = (m : Int) from x2]
    by_cases q : wr (m : Int) ≤ wr (s : Int)
    · rw [if_pos q, if_pos q]
      exact ⟨(s : Int), _, _, rfl, rfl, n, r, p, hA1⟩
    · have hsm : s < m := by rw [wr_nat (by omega), wr_nat (by omega)] at q; omega
      have e8 : M1.2 8 s = J.2 5 s := (s9.2 8 s (by decide)).trans (x4 s hsm).1.symm
      rw [if_neg q, if_neg q, bd_n hs3, bd_n hs3, show fX2_step ((J, R, U, V, T).2.2.2.1, (J, R, U, V, T).2.1) = _ from s1, cls_s, Int.toNat_natCast, s4, e8]
      by_cases z : wr (J.2 5 s) = wr g
      · rw [if_pos z, if_pos (show wr ((J, R, U, V, T).1.2 5 s) = wr g from z), nm_q, nm_q, up1]
        exact ih (s + 1) f' f2' ly' R V1 M1 s3 hA1 (by omega) (by omega) (by omega)
      · rw [if_neg z, if_neg (show ¬ wr ((J, R, U, V, T).1.2 5 s) = wr g from z)]
        exact ⟨(s : Int), _, _, rfl, rfl, n, r, p, hA1⟩
theorem call_check {J R U V T M : St} {a b : Int} (h : Rel (J, R, U, V, T) M) (ha : wr a = a) (hb : wr b = b) : CA (fX3_check (J, R, U, V, T) a b) (fX4_check M a b) := by
  obtain ⟨n, r, p, hA⟩ := id h
  have h1 := hA.1
  have hn3 := h1.2.2.1
  unfold fX3_check fX4_check
  rw [e_isWay ha, m_in ha wl_0 wl_8, clp_s, clp_s]
  by_cases q : 0 ≤ a ∧ a ≤ 8
  · rw [if_pos q, if_neg w1, if_neg w1, e_isPlaces hb, m_in hb wl_1 wl_8, clp_s, clp_s]
    by_cases q2 : 1 ≤ b ∧ b ≤ 8
    · rw [if_pos q2, if_neg w1, if_neg w1]
      obtain ⟨w, rfl⟩ := nat_of q.1
      obtain ⟨k, rfl⟩ := nat_of (show 0 ≤ b by omega)
      have hb1 := beg_rel (S := V) h1 (show w ≤ 8 by omega) (show 1 ≤ k ∧ k ≤ 8 by omega)
      rw [show fX2_begin ((J, R, U, V, T).2.2.2.1, (J, R, U, V, T).2.1) (w : Int) (k : Int) = some (bgS V w k, bgR R r n w) from c_begin h1 (by omega), m_begin, clv_s, clv_s, nm_q, nm_q]
      exact chk_loop n 0 FU FU 0 _ _ _ hb1.1 (RelA_fr (RelA_row hA (bgR_w R r n w) (fun q => bgR_n (Or.inr q))) hb1.2) (by omega) (FU_gt (by omega)) (FU_gt (by omega))
    · rw [if_neg q2, if_pos wl_0, if_pos wl_0]
      exact ⟨-2, _, _, rfl, rfl, h⟩
  · rw [if_neg q, if_pos wl_0, if_pos wl_0]
    exact ⟨-2, _, _, rfl, rfl, h⟩
