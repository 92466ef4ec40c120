/-! the calls phases and phase -/
theorem ph_all {R M : St} {n : Nat} {r p : Nat → Nat} {k i : Nat} (h : RR R M n r p) (hi : i < n) (hk : 1 ≤ k ∧ k ≤ 8) : ∃ (v : Nat) (M' : St), fX1_phaseAt R (k : Int) (i : Int) = some ((v : Int), R) ∧ fX4_phaseOf M (k : Int) (i : Int) = some ((v : Int), M') ∧ FR M M' := by
  have hn3 := h.2.2.1
  have hr1 : ∀ i, i < n → r i < 16 ∧ R.2 0 i = (r i : Int) := fun i hi => ⟨(h.2.2.2.1 i hi).1, (h.2.2.2.1 i hi).2.1⟩
  have hM : ∀ i, i < n → M.2 1 i = (r i : Int) := fun i hi => (h.2.2.2.1 i hi).2.2
  obtain ⟨F, hF⟩ : ∃ F, FU = F + 1 := ⟨FU - 1, by have := FU_gt (n := 0) (by decide); omega⟩
  have hF2 : 1000 < F := by have := FU_gt (n := 2000) (by decide); omega
  obtain ⟨a, b⟩ := hr1 0 (by omega)
  have hz : cn (fun t => (0 : Nat).testBit t = true) 16 = 0 := by decide
  have e : ¬ wr (i : Int) < wr ((0 : Nat) : Int) := by rw [wr_nat (by omega), wr_nat (by omega)]; omega
  have h0 : SN (c32 M 16) 0 := ⟨by decide, fun t ht => by
    show (if 32 = 32 ∧ t < 16 then 0 else M.2 32 t) = _
    rw [if_pos ⟨rfl, ht⟩]; simp⟩
  have hF0 : FR M (c32 M 16) := ⟨fun _ _ => rfl, fun x t hx => by
    show (if x = 32 ∧ t < 16 then 0 else M.2 x t) = _
    rw [if_neg (by omega)]⟩
  obtain ⟨M1, m1, m2, m3, m4⟩ := m_j69 (K := fX4_phaseOf_l8 F) (M := c32 M 16) (v1 := (k : Int)) (v2 := (i : Int)) (v3 := ((0 : Nat) : Int)) (s := 0) (r := r) (n := n) (by omega) hn3 (fun i hi => ⟨(hr1 i hi).1, by rw [hF0.2 1 i (by decide)]; exact hM i hi⟩) h0
  have hc1 : cn (fun t => ((0 : Nat) ||| 2 ^ (r 0)).testBit t = true) 16 = 1 := by rw [cn_or1 a, hz]; simp
  obtain ⟨v, M', t1, t2, t3⟩ := ph_loop hn3 hi hk hr1 i 1 F F (0 ||| 2 ^ (r 0)) 0 M1 (by omega) (by omega) (fun i hi => by rw [m4 1 (by decide), hF0.2 1 i (by decide)]; exact hM i hi) m2 (by omega) (by omega) (by omega) (by omega)
  refine ⟨v, M', ?_, ?_, FR_tr hF0 (FR_tr m3 t3)⟩
  · unfold fX1_phaseAt
    rw [nm_q, nm_q, nm_q, hF]
    have hc := c_ph1 (R := R) (k := k) (i := i) (ph := 0) (f := F) (D := 0) e (show 0 < 300 by decide) a b (by decide)
    have e1 : wr ((cn (fun t => ((0 : Nat) ||| 2 ^ (r 0)).testBit t = true) 16 : Nat) : Int) ≤ wr (k : Int) := by rw [hc1, wr_nat (by omega), wr_nat (by omega)]; omega
    rw [if_pos e1] at hc
    exact hc.trans t1
  · unfold fX4_phaseOf
    rw [nm_q, nm_q, nm_q, hF]
    have hm : fX4_phaseOf_l8 (F + 1) (k : Int) (i : Int) (-1) (k : Int) 0 M = fX4_phaseOf_j39 (fX4_phaseOf_l8 F) (k : Int) (i : Int) (-1) 0 M := by
      have e' : ¬ wr (i : Int) < wr 0 := e
      have en : wr (-1) < 0 := by rw [wl_m1]; decide
      rw [show fX4_phaseOf_l8 (F + 1) (k : Int) (i : Int) (-1) (k : Int) 0 M = (if wr (i : Int) < wr 0 then _ else (if wr (-1) < 0 then (fX4_phaseOf_j39 (fX4_phaseOf_l8 F) (k : Int) (i : Int) (-1) 0 M) else _)) from rfl, if_neg e', if_pos en]
    rw [hm]
    unfold fX4_phaseOf_j39
    rw [nm_q, nm_q, nm_q]
    have hcl := m_c32 (K := fX4_phaseOf_l8 F) (v1 := (k : Int)) (v2 := (i : Int)) (v3 := ((0 : Nat) : Int)) (v4 := 0) (v5 := ((0 : Nat) : Int)) (M := M) 16 0 FU (by omega) (FU_gt (by omega))
    have ec0 : c32 M 0 = M := st_ext (fun _ => rfl) (fun x t => by unfold c32; simp)
    rw [ec0] at hcl
    rw [hz] at m1
    exact hcl.trans (m1.trans t2)
theorem call_phase {J R U V T M : St} {a b : Int} (h : Rel (J, R, U, V, T) M) (ha : wr a = a) (hb : wr b = b) : CA (fX3_phase (J, R, U, V, T) a b) (fX4_phase M a b) := by
  obtain ⟨n, r, p, hA⟩ := id h
  have h1 := hA.1
  unfold fX3_phase fX4_phase
  rw [e_has h1.1 h1.2.2.1 hb, m_in ha wl_1 wl_8, cls_s, clp_s]
  by_cases q2 : 1 ≤ a ∧ a ≤ 8
  · rw [if_pos q2, if_neg w1, m_isAsking hb h1.2.1 h1.2.2.1, cls_s]
    by_cases q : 0 ≤ b ∧ b < (n : Int)
    · obtain ⟨x, rfl⟩ := nat_of q.1
      obtain ⟨k, rfl⟩ := nat_of (show 0 ≤ a by omega)
      obtain ⟨v, M', b1, b2, b3⟩ := ph_all h1 (show x < n by omega) (show 1 ≤ k ∧ k ≤ 8 by omega)
      rw [if_pos q, if_neg w1, if_neg w1, e_isPlaces ha, if_pos q2, clp_s, if_neg w1, b2, show fX1_phaseAt _ (k : Int) (x : Int) = _ from b1, cls_s, cls_s]
      exact ⟨(v : Int), _, M', rfl, rfl, n, r, p, RelA_fr hA b3⟩
    · rw [if_neg q, if_pos wl_0, if_pos wl_0]
      exact ⟨-1, _, _, rfl, rfl, h⟩
  · rw [if_neg q2, if_pos wl_0]
    refine ⟨-1, _, _, ?_, rfl, h⟩
    by_cases q : 0 ≤ b ∧ b < (n : Int)
    · rw [if_pos q, if_neg w1, e_isPlaces ha, if_neg q2, clp_s, if_pos wl_0]; rfl
    · rw [if_neg q, if_pos wl_0]; rfl
theorem call_phases {J R U V T M : St} {a : Int} (h : Rel (J, R, U, V, T) M) (ha : wr a = a) : CA (fX3_phases (J, R, U, V, T) a) (fX4_phases M a) := by
  obtain ⟨n, r, p, hA⟩ := id h
  have h1 := hA.1
  have hn3 := h1.2.2.1
  unfold fX3_phases fX4_phases
  rw [e_isPlaces ha, m_in ha wl_1 wl_8, clp_s, clp_s]
  by_cases q2 : 1 ≤ a ∧ a ≤ 8
  · obtain ⟨k, rfl⟩ := nat_of (show 0 ≤ a by omega)
    rw [if_pos q2, if_neg w1, if_neg w1, show (J, R, U, V, T).2.1.1 4 = (n : Int) from h1.1, h1.2.1]
    by_cases q : 1 ≤ n
    · have e : wr 1 ≤ wr (n : Int) := by rw [wl_1, wr_nat (by omega)]; omega
      have en : (n : Int) - 1 = ((n - 1 : Nat) : Int) := by omega
      obtain ⟨v, M', b1, b2, b3⟩ := ph_all h1 (show n - 1 < n by omega) (show 1 ≤ k ∧ k ≤ 8 by omega)
      rw [if_pos e, en, b2, show fX1_phaseAt _ (k : Int) ((n - 1 : Nat) : Int) = _ from b1, cls_s, cls_s]
      exact ⟨(v : Int) + 1, _, M', rfl, rfl, n, r, p, RelA_fr hA b3⟩
    · have e : ¬ wr 1 ≤ wr (n : Int) := by rw [wl_1, wr_nat (by omega)]; omega
      have e0 : n = 0 := by omega
      subst e0
      rw [if_neg e]
      have hm : fX4_phaseOf M (k : Int) (((0 : Nat) : Int) - 1) = some (-1, M) := by
        obtain ⟨F, hF⟩ : ∃ F, FU = F + 1 := ⟨FU - 1, by have := FU_gt (n := 0) (by decide); omega⟩
        have el : wr (((0 : Nat) : Int) - 1) < wr 0 := by rw [wr_id (by omega), wl_0]; omega
        unfold fX4_phaseOf
        rw [nm_q, nm_q, nm_q, hF]
        unfold fX4_phaseOf_l8
        rw [if_pos el]
        rfl
      rw [hm, cls_s]
      exact ⟨0, _, _, rfl, rfl, h⟩
  · rw [if_neg q2, if_pos wl_0, if_pos wl_0]
    exact ⟨-1, _, _, rfl, rfl, h⟩
