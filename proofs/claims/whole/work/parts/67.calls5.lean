/-! draw -/
theorem ushr16 (x : Int) : ∃ m : Nat, m < 65536 ∧ ushrI x 16 = (m : Int) := by
  have e : ∀ u : UInt32, (u >>> ((iz 16).toUInt32 &&& Int32.toUInt32 31)).toInt32.toInt = ((u.toNat / 65536 : Nat) : Int) := fun u => by
    have e1 : ((iz 16).toUInt32 &&& Int32.toUInt32 31) = 16 := by decide
    rw [e1]
    have e2 : (u >>> (16 : UInt32)).toNat = u.toNat / 65536 := by
      rw [UInt32.toNat_shiftRight]
      show u.toNat >>> 16 = _
      rw [Nat.shiftRight_eq_div_pow]
    have hlt : u.toNat < 4294967296 := u.toNat_lt
    have e3 : u >>> (16 : UInt32) = UInt32.ofNat (u.toNat / 65536) := by
      apply UInt32.toNat.inj
      rw [e2, UInt32.toNat_ofNat']
      exact (Nat.mod_eq_of_lt (by omega)).symm
    rw [e3]
    have hz := nI_toInt (n := u.toNat / 65536) (by omega)
    rw [← hz]
    rfl
  refine ⟨(iz x).toUInt32.toNat / 65536, ?_, ?_⟩
  · have hlt : (iz x).toUInt32.toNat < 4294967296 := (iz x).toUInt32.toNat_lt
    omega
  · unfold ushrI
    exact e _
theorem draw_loop {J U V T : St} {p : Nat → Nat} {m b : Nat} (hm : m ≤ 300) (hb : 1 ≤ b ∧ b ≤ 16) : ∀ (d s f f2 n : Nat) (v : Int) (r : Nat → Nat) (R M : St), RR R M n r p → TOLD J M → M.1 3 = 0 → s + d = m → n + d ≤ 300 → d < f → d < f2 → CA (fX3_draw_l48 f (m : Int) (b : Int) v (s : Int) (J, R, U, V, T)) (fX4_draw_l49 f2 (m : Int) (b : Int) v (s : Int) M) := by
  intro d
  induction d with
  | zero =>
    intro s f f2 n v r R M h hT h3 hs hn hf hf2
    obtain ⟨f', rfl⟩ : ∃ f', f = f' + 1 := ⟨f - 1, by omega⟩
    obtain ⟨f2', rfl⟩ : ∃ f', f2 = f' + 1 := ⟨f2 - 1, by omega⟩
    have e : wr (m : Int) ≤ wr (s : Int) := by rw [wr_nat (by omega), wr_nat (by omega)]; omega
    unfold fX3_draw_l48 fX4_draw_l49
    rw [if_pos e, if_pos e]
    unfold fX3_draw_j85 fX4_draw_j83
    rw [c_forget, clv_s, h.2.1]
    refine ⟨(n : Int), _, _, ?_, rfl, Rel_forget (V := V) (U := U) (T := T) h hT h3⟩
    show some (R.1 4, _) = _
    rw [h.1]
  | succ d ih =>
    intro s f f2 n v r R M h hT h3 hs hn hf hf2
    obtain ⟨f', rfl⟩ : ∃ f', f = f' + 1 := ⟨f - 1, by omega⟩
    obtain ⟨f2', rfl⟩ : ∃ f', f2 = f' + 1 := ⟨f2 - 1, by omega⟩
    have e : ¬ wr (m : Int) ≤ wr (s : Int) := by rw [wr_nat (by omega), wr_nat (by omega)]; omega
    obtain ⟨u, u1, u2⟩ := ushr16 (1103515245 * v + 12345)
    have hrem : remI (ushrI (1103515245 * v + 12345) 16) (b : Int) = ((u % b : Nat) : Int) := by rw [u2]; exact rem_nat (by omega) (by omega) (by omega)
    have hx : u % b < 16 := Nat.lt_of_lt_of_le (Nat.mod_lt _ (by omega)) hb.2
    have hz : wr (b : Int) ≠ 0 := by rw [wr_nat (by omega)]; omega
    obtain ⟨R', M', t1, t2, t3, t4⟩ := add_rel h (by omega) hx
    have hi := ih (s + 1) f' f2' (n + 1) (1103515245 * v + 12345) _ R' M' t3 (TOLD_fa hT t4) ((t4.1 3 (by decide)).trans h3) (by omega) (by omega) (by omega) (by omega)
    unfold fX3_draw_l48 fX4_draw_l49
    rw [if_neg e, if_neg e]
    rw [nm_q, nm_q, cz_pos hz, cz_pos hz, hrem, show fX1_append (J, R, U, V, T).2.1 ((u % b : Nat) : Int) = some R' from t1, t2, clv_s, clv_s, nm_q, nm_q, up1]
    exact hi
theorem call_draw {J R U V T M : St} {a b c : Int} (h : Rel (J, R, U, V, T) M) (ha : wr a = a) (hb : wr b = b) : CA (fX3_draw (J, R, U, V, T) a b c) (fX4_draw M a b c) := by
  obtain ⟨n, r, p, h1, h2, h3, h4⟩ := id h
  have hn3 := h1.2.2.1
  unfold fX3_draw fX4_draw
  rw [m_in ha wl_0 wl_300, clp_s, ha, hb, wl_300, wl_1, wl_16, m_in hb wl_1 wl_16]
  by_cases q : 0 ≤ a ∧ a ≤ 300
  · rw [if_neg (by omega), if_neg (by omega), if_pos q, if_neg w1, clp_s]
    by_cases q2 : 1 ≤ b ∧ b ≤ 16
    · rw [if_neg (by omega), if_pos q2.2, if_pos q2, if_neg w1, show (J, R, U, V, T).2.1.1 4 = (n : Int) from h1.1, h1.2.1]
      obtain ⟨x, rfl⟩ := nat_of q.1
      obtain ⟨y, rfl⟩ := nat_of (show 0 ≤ b by omega)
      by_cases z : n + x ≤ 300
      · have e : wr ((n : Int) + (x : Int)) ≤ 300 := by rw [wr_id (by omega)]; omega
        rw [if_pos e, if_pos e]
        simp only [nm_q, cb_0]
        exact draw_loop (by omega) (by omega) x 0 FU FU n c r R (setI M 3 0) h1 h2 rfl (by omega) z (FU_gt (by omega)) (FU_gt (by omega))
      · have e : ¬ wr ((n : Int) + (x : Int)) ≤ 300 := by rw [wr_id (by omega)]; omega
        rw [if_neg e, if_neg e]
        exact ⟨-2, _, _, rfl, rfl, h⟩
    · rw [if_neg q2, if_pos wl_0]
      refine ⟨-1, _, _, ?_, rfl, h⟩
      by_cases z : b < 1
      · rw [if_pos z]; rfl
      · rw [if_neg z, if_neg (by omega)]; rfl
  · rw [if_neg q, if_pos wl_0]
    refine ⟨-1, _, _, ?_, rfl, h⟩
    by_cases z : a < 0
    · rw [if_pos z]; rfl
    · rw [if_neg z, if_pos (by omega)]; rfl
