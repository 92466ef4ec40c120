/-! the calls least and goes -/
theorem gE_or {q c : Nat → Nat} {k n u x : Nat} (hQ : QC q c k n u) (hx : x < n) : gE q c k n x = -1 ∨ ∃ g : Nat, g < u ∧ gE q c k n x = (g : Int) := by
  obtain ⟨hX, hpk⟩ := sE_b hQ x (by omega)
  have hk := hQ.2.1
  unfold gE
  by_cases z : (sE q c k n x).testBit (q x) = true
  · rw [if_pos z]; exact Or.inl rfl
  · rw [if_neg z]
    by_cases w : pc (sE q c k n x) < k
    · rw [if_pos w]; exact Or.inl rfl
    · rw [if_neg w]
      obtain ⟨g, g0, g10, gu, -⟩ := ch_p (q := q) (c := c) (k := k) (n := n) (i := x) hQ.2.2.1 hX (by omega)
      exact Or.inr ⟨g, gu, g10⟩
theorem th_ex (r : Nat → Nat) (n : Nat) : ∃ th : Nat → Nat, ∀ t, t < 16 → (bt r n).testBit t = true → th (bo r n t) = t := by
  have h : ∀ g : Nat, ∃ t0 : Nat, ∀ t, t < 16 → (bt r n).testBit t = true → bo r n t = g → t0 = t := by
    intro g
    by_cases q : ∃ t, t < 16 ∧ (bt r n).testBit t = true ∧ bo r n t = g
    · obtain ⟨t0, a, b, c⟩ := q
      refine ⟨t0, fun t h1 h2 h3 => ?_⟩
      exact cn_inj (c := fun x => (bt r n).testBit x = true) b h2 (by unfold bo at c h3; omega)
    · exact ⟨0, fun t h1 h2 h3 => absurd ⟨t, h1, h2, h3⟩ q⟩
  obtain ⟨th, hth⟩ := Classical.axiomOfChoice h
  exact ⟨th, fun t h1 h2 => hth (bo r n t) t h1 h2 rfl⟩
def TK (T R : St) (n : Nat) (r p : Nat → Nat) (k : Nat) : Prop := ∀ M, RR R M n r p → (∃ M', fX4_least_ M (k : Int) = some (T.1 11, M') ∧ FR M M') ∧ ∀ i, i < n → ∃ M', fX4_goes M (k : Int) (i : Int) = some (T.2 7 i, M') ∧ FR M M'
theorem c_table {T R M : St} {n : Nat} {r p : Nat → Nat} {k : Nat} (hM : RR R M n r p) (hk : 1 ≤ k ∧ k ≤ 8) (hu : bo r n 16 ≤ 10) (hT : TBL T R n r p) : ∃ T', fX0_prepare (T, R) (k : Int) = some (T', R) ∧ T'.1 10 = (k : Int) ∧ TK T' R n r p k := by
  have hQ := QC_row hM hk hu
  by_cases w : wr (T.1 10) = wr (k : Int)
  · rcases hT with z | ⟨k', a, b, c⟩
    · rw [z, wl_0, wr_nat (by omega)] at w
      omega
    · rw [b, wr_nat (by omega), wr_nat (by omega)] at w
      have hkk : k' = k := by omega
      subst hkk
      refine ⟨T, ?_, b, c⟩
      have e : wr ((T, R).1.1 10) = wr (k' : Int) := by show wr (T.1 10) = _; rw [b]
      unfold fX0_prepare
      rw [if_pos e]
  · obtain ⟨th, hth⟩ := th_ex r n
    obtain ⟨T', a1, a2, a3, a4⟩ := c_prep hM hk hu hth w
    refine ⟨T', a1, a2, fun N hN => ⟨?_, fun i hi => ?_⟩⟩
    · rw [a3]
      exact m_least hN hk hu
    · obtain ⟨N', f1, f2, f3⟩ := m_goes hN hk hu hi
      rcases gE_or hQ hi with z | ⟨g, hg, z⟩
      · exact ⟨N', by rw [(a4 i hi).1 z]; exact f2 z, f1⟩
      · obtain ⟨t, t1, t2, t3⟩ := cn_ex (c := fun x => (bt r n).testBit x = true) 16 g hg
        have t3 : bo r n t = g := t3
        exact ⟨N', by rw [(a4 i hi).2 g z, ← t3, hth t t1 t2]; exact f3 t t1 t2 (by rw [z, t3]), f1⟩
theorem TBL_k {T R : St} {n : Nat} {r p : Nat → Nat} {k : Nat} (hk : 1 ≤ k ∧ k ≤ 8) (h : T.1 10 = (k : Int)) (g : TK T R n r p k) : TBL T R n r p := Or.inr ⟨k, hk, h, g⟩
theorem call_least {J R U V T M : St} {a : Int} (h : Rel (J, R, U, V, T) M) (ha : wr a = a) : CA (fX3_least (J, R, U, V, T) a) (fX4_least_ M a) := by
  obtain ⟨n, r, p, h1, h2, h3, h4⟩ := id h
  have hn3 := h1.2.2.1
  by_cases q : 1 ≤ a ∧ a ≤ 8
  · obtain ⟨k, rfl⟩ := nat_of (show 0 ≤ a by omega)
    have hun := c_unlike (R := R) (r := r) h1.1 hn3 (fun i hi => ⟨(h1.2.2.2.1 i hi).1, (h1.2.2.2.1 i hi).2.1⟩)
    have hb16 : bo r n 16 ≤ 16 := cn_le _ 16
    by_cases hu : bo r n 16 ≤ 10
    · have e : wr ((cn (fun t => (bt r n).testBit t = true) 16 : Nat) : Int) ≤ wr 10 := by show wr ((bo r n 16 : Nat) : Int) ≤ _; rw [wl_10, wr_nat (by omega)]; omega
      obtain ⟨T', a1, a2, a3⟩ := c_table h1 (show 1 ≤ k ∧ k ≤ 8 by omega) hu h4
      obtain ⟨⟨M', m1, m2⟩, -⟩ := a3 M h1
      refine ⟨T'.1 11, (J, R, U, V, T'), M', ?_, m1, n, r, p, RelA_fr ⟨h1, h2, h3, TBL_k (by omega) a2 a3⟩ m2⟩
      unfold fX3_least
      rw [e_isPlaces ha, clp_s, if_pos q, if_neg w1, show fX1_unlike (J, R, U, V, T).2.1 = _ from hun, cls_s, if_pos e]
      show clv (fX0_prepare (T, R) (k : Int)) _ _ = _
      rw [a1, clv_s]
    · have e : ¬ wr ((cn (fun t => (bt r n).testBit t = true) 16 : Nat) : Int) ≤ wr 10 := by show ¬ wr ((bo r n 16 : Nat) : Int) ≤ _; rw [wl_10, wr_nat (by omega)]; omega
      obtain ⟨M', m1, m2⟩ := m_find_no (k := (k : Int)) h1 (by omega)
      refine ⟨-5, (J, R, U, V, T), M', ?_, ?_, n, r, p, RelA_fr ⟨h1, h2, h3, h4⟩ m2⟩
      · unfold fX3_least
        rw [e_isPlaces ha, clp_s, if_pos q, if_neg w1, show fX1_unlike (J, R, U, V, T).2.1 = _ from hun, cls_s, if_neg e]
      · unfold fX4_least_
        rw [m_in ha wl_1 wl_8, clp_s, if_pos q, if_neg w1, m1, cls_s, if_pos wl_0]
        rfl
  · refine ⟨-1, _, _, ?_, ?_, h⟩
    · unfold fX3_least
      rw [e_isPlaces ha, clp_s, if_neg q, if_pos wl_0]
    · unfold fX4_least_
      rw [m_in ha wl_1 wl_8, clp_s, if_neg q, if_pos wl_0]
theorem call_goes {J R U V T M : St} {a b : Int} (h : Rel (J, R, U, V, T) M) (ha : wr a = a) (hb : wr b = b) : CA (fX3_goes (J, R, U, V, T) a b) (fX4_goes M a b) := by
  obtain ⟨n, r, p, h1, h2, h3, h4⟩ := id h
  have hn3 := h1.2.2.1
  by_cases q : 1 ≤ a ∧ a ≤ 8
  · by_cases q2 : 0 ≤ b ∧ b < (n : Int)
    · obtain ⟨k, rfl⟩ := nat_of (show 0 ≤ a by omega)
      obtain ⟨i, rfl⟩ := nat_of q2.1
      have hun := c_unlike (R := R) (r := r) h1.1 hn3 (fun i hi => ⟨(h1.2.2.2.1 i hi).1, (h1.2.2.2.1 i hi).2.1⟩)
      have hb16 : bo r n 16 ≤ 16 := cn_le _ 16
      by_cases hu : bo r n 16 ≤ 10
      · have e : wr ((cn (fun t => (bt r n).testBit t = true) 16 : Nat) : Int) ≤ wr 10 := by show wr ((bo r n 16 : Nat) : Int) ≤ _; rw [wl_10, wr_nat (by omega)]; omega
        obtain ⟨T', a1, a2, a3⟩ := c_table h1 (show 1 ≤ k ∧ k ≤ 8 by omega) hu h4
        obtain ⟨M', m1, m2⟩ := (a3 M h1).2 i (by omega)
        refine ⟨T'.2 7 i, (J, R, U, V, T'), M', ?_, m1, n, r, p, RelA_fr ⟨h1, h2, h3, TBL_k (by omega) a2 a3⟩ m2⟩
        unfold fX3_goes
        rw [show fX1_has (J, R, U, V, T).2.1 (i : Int) = _ from e_has h1.1 hn3 hb, cls_s, if_pos q2, if_neg w1, e_isPlaces ha, clp_s, if_pos q, if_neg w1]
        show cls (fX1_unlike R) _ _ = _
        rw [hun, cls_s, if_pos e]
        show clv (fX0_prepare (T, R) (k : Int)) _ _ = _
        rw [a1, clv_s, bd_n (show i < 300 by omega), Int.toNat_natCast]
      · have e : ¬ wr ((cn (fun t => (bt r n).testBit t = true) 16 : Nat) : Int) ≤ wr 10 := by show ¬ wr ((bo r n 16 : Nat) : Int) ≤ _; rw [wl_10, wr_nat (by omega)]; omega
        obtain ⟨M', m1, m2⟩ := m_find_no (k := (k : Int)) h1 (by omega)
        refine ⟨-1, (J, R, U, V, T), M', ?_, ?_, n, r, p, RelA_fr ⟨h1, h2, h3, h4⟩ m2⟩
        · unfold fX3_goes
          rw [show fX1_has (J, R, U, V, T).2.1 (i : Int) = _ from e_has h1.1 hn3 hb, cls_s, if_pos q2, if_neg w1, e_isPlaces ha, clp_s, if_pos q, if_neg w1]
          show cls (fX1_unlike R) _ _ = _
          rw [hun, cls_s, if_neg e]
          rfl
        · unfold fX4_goes
          rw [m_in ha wl_1 wl_8, clp_s, if_pos q, if_neg w1, m_isAsking hb h1.2.1 hn3, cls_s, if_pos q2, if_neg w1, m1, cls_s, if_pos wl_0]
          rfl
    · refine ⟨-1, _, _, ?_, ?_, h⟩
      · unfold fX3_goes
        rw [show fX1_has (J, R, U, V, T).2.1 b = _ from e_has h1.1 hn3 hb, cls_s, if_neg q2, if_pos wl_0]
        rfl
      · unfold fX4_goes
        rw [m_in ha wl_1 wl_8, clp_s, if_pos q, if_neg w1, m_isAsking hb h1.2.1 hn3, cls_s, if_neg q2, if_pos wl_0]
        rfl
  · refine ⟨-1, _, _, ?_, ?_, h⟩
    · unfold fX3_goes
      rw [show fX1_has (J, R, U, V, T).2.1 b = _ from e_has h1.1 hn3 hb, cls_s]
      by_cases q2 : 0 ≤ b ∧ b < (n : Int)
      · rw [if_pos q2, if_neg w1, e_isPlaces ha, clp_s, if_neg q, if_pos wl_0]
        rfl
      · rw [if_neg q2, if_pos wl_0]
        rfl
    · unfold fX4_goes
      rw [m_in ha wl_1 wl_8, clp_s, if_neg q, if_pos wl_0]
      rfl
