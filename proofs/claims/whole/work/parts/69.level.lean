/-! level -/
def knA (a w : Nat) : Prop := (a = 1 ∧ w ≠ 2) ∨ (a = 2 ∧ w ≠ 3) ∨ (a = 3 ∧ w ≠ 6) ∨ (a = 4 ∧ w ≠ 7)
theorem knows_a {U R M : St} {w a i : Nat} (hU : U.1 9 = (w : Int)) (hM : M.1 4 = (w : Int)) (h8 : w ≤ 8) (ha : a ≤ 4) : (knA a w ∧ fX2_knowsOfAll (U, R) (a : Int) = some (0, (U, R)) ∧ (if wr (a : Int) = wr 1 then (fX4_level_j60 (i : Int) (a : Int) 2 M) else (if wr (a : Int) = wr 2 then (fX4_level_j60 (i : Int) (a : Int) 3 M) else (if wr (a : Int) = wr 3 then (fX4_level_j60 (i : Int) (a : Int) 6 M) else (fX4_level_j60 (i : Int) (a : Int) 7 M)))) = some (-2147483647, M)) ∨ (¬ knA a w ∧ fX2_knowsOfAll (U, R) (a : Int) = some (1, (U, R)) ∧ (if wr (a : Int) = wr 1 then (fX4_level_j60 (i : Int) (a : Int) 2 M) else (if wr (a : Int) = wr 2 then (fX4_level_j60 (i : Int) (a : Int) 3 M) else (if wr (a : Int) = wr 3 then (fX4_level_j60 (i : Int) (a : Int) 6 M) else (fX4_level_j60 (i : Int) (a : Int) 7 M)))) = fX4_level_j76 (i : Int) (a : Int) M) := by
  unfold knA
  obtain q | q | q | q | q | q | q | q | q : w = 0 ∨ w = 1 ∨ w = 2 ∨ w = 3 ∨ w = 4 ∨ w = 5 ∨ w = 6 ∨ w = 7 ∨ w = 8 := by omega
  all_goals subst q
  all_goals (obtain q | q | q | q | q : a = 0 ∨ a = 1 ∨ a = 2 ∨ a = 3 ∨ a = 4 := by omega)
  all_goals subst q
  all_goals (unfold fX2_knowsOfAll fX2_knowsOfAll_j45 fX2_knowsOfAll_j59 fX2_knowsOfAll_j74 fX2_knowsOfAll_j89 fX4_level_j60; simp only [nm_q]; rw [hU, hM])
  all_goals first | exact Or.inl ⟨by decide, rfl, rfl⟩ | exact Or.inr ⟨by decide, rfl, rfl⟩
theorem tell_a {S R M : St} {n : Nat} {r p : Nat → Nat} {w k i ly a : Nat} {occ : Nat → Prop} (h : SH S R M n r p w k i ly occ) (ha : a ≤ 4) : ∃ v, fX2_tellOfAll (S, R) (a : Int) = some (v, (S, R)) ∧ (if wr (a : Int) = 0 then (fX4_level_j140 ((M.1 22)) M) else (if wr (a : Int) = wr 1 then (fX4_level_j140 ((M.1 23)) M) else (if wr (a : Int) = wr 2 then (fX4_level_j140 ((M.1 24)) M) else (if wr (a : Int) = wr 3 then (fX4_level_j140 ((M.1 25)) M) else (fX4_level_j140 ((M.1 26)) M))))) = some (v, M) := by
  obtain ⟨c1, c2, c3, c4, c5, c6, c7, c8, c9, c10, c11, c12, c13, c14, c15, c16, c17, c18, c19⟩ := h.2.2.1
  unfold fX2_tellOfAll
  obtain q | q | q | q | q : a = 0 ∨ a = 1 ∨ a = 2 ∨ a = 3 ∨ a = 4 := by omega
  all_goals subst q
  · refine ⟨(ly : Int), ?_, ?_⟩
    · rw [show wr ((0 : Nat) : Int) = 0 from rfl, if_neg (by decide), if_neg (by decide), if_neg (by decide), if_neg (by decide), c_lying, cls_s, c7]
    · rw [c6]; rfl
  · exact ⟨M.1 23, by rw [c8]; rfl, rfl⟩
  · exact ⟨M.1 24, by rw [c9]; rfl, rfl⟩
  · exact ⟨M.1 25, by rw [c12]; rfl, rfl⟩
  · exact ⟨M.1 26, by rw [c15]; rfl, rfl⟩
theorem call_level {J R U V T M : St} {a b : Int} (h : Rel (J, R, U, V, T) M) (ha : wr a = a) (hc : wr b = b) : CA (fX3_level (J, R, U, V, T) a b) (fX4_level M a b) := by
  obtain ⟨n, r, p, h1, h2, h3, h4⟩ := id h
  unfold fX3_level fX4_level
  rcases h3 with ⟨x, y⟩ | ⟨x, y, z, u, w, k, s, v1, v2, v3⟩
  · rw [show (J, R, U, V, T).1.1 11 = 0 from x, y, if_pos wl_0, if_pos wl_0]
    exact ⟨-3, _, _, rfl, rfl, h⟩
  · rw [show (J, R, U, V, T).1.1 11 = 1 from x, y, if_neg w1, if_neg w1, e_has h1.1 h1.2.2.1 ha, m_isAsking ha h1.2.1 h1.2.2.1, cls_s, cls_s]
    by_cases q : 0 ≤ a ∧ a < (n : Int)
    · rw [if_pos q, if_neg w1, if_neg w1, m_in hc wl_0 wl_4, clp_s]
      by_cases q3 : 0 ≤ b ∧ b ≤ 4
      · have n1 : ¬ wr b < 0 := by rw [hc]; omega
        have n2 : wr b ≤ wr 4 := by rw [hc, wl_4]; omega
        rw [if_pos q3, if_neg w1, if_neg n1, if_pos n2]
        obtain ⟨i, rfl⟩ := nat_of q.1
        obtain ⟨d, rfl⟩ := nat_of q3.1
        obtain ⟨⟨h8, hk1, hk8, -⟩, u9, u10, u11, ux⟩ := AT_b v3 h1
        rcases knows_a (R := R) (a := d) (i := i) u9 v1 h8 (by omega) with ⟨-, k1, k2⟩ | ⟨-, k1, k2⟩
        · rw [k2, show fX2_knowsOfAll ((J, R, U, V, T).2.2.1, (J, R, U, V, T).2.1) (d : Int) = _ from k1, cls_s, if_pos wl_0]
          exact ⟨-2147483647, _, _, rfl, rfl, h⟩
        · rw [k2, show fX2_knowsOfAll ((J, R, U, V, T).2.2.1, (J, R, U, V, T).2.1) (d : Int) = _ from k1, cls_s, if_neg w1]
          obtain ⟨U', R', b1, b2, b3⟩ := c_behind h1 v3 (show i < n by omega)
          obtain ⟨M', ly, c1, c2, c3⟩ := b2 M (RR_row h1 b3)
          have hs := m_serveTo_l (show i < n by omega) h1.2.2.1 c1
          obtain ⟨v, d1, d2⟩ := tell_a (a := d) c2 (by omega)
          unfold fX4_level_j76
          rw [v1, v2, hs, clv_s, show fX2_standBehind (U, R) (i : Int) = some (U', R') from b1, clv_s, show fX2_tellOfAll (U', R') (d : Int) = _ from d1, cls_s]
          refine ⟨v, _, M', rfl, d2, n, r, p, RelA_fr ⟨RR_row h1 b3, h2, Or.inr ⟨x, y, z, u, w, k, i + 1, v1, v2, b2⟩, TBL_row h4 b3⟩ c3⟩
      · rw [if_neg q3, if_pos wl_0]
        refine ⟨-2147483648, _, _, ?_, rfl, h⟩
        by_cases z : b < 0
        · have n1 : wr b < 0 := by rw [hc]; exact z
          rw [if_pos n1]; rfl
        · have n1 : ¬ wr b < 0 := by rw [hc]; exact z
          have n2 : ¬ wr b ≤ wr 4 := by rw [hc, wl_4]; omega
          rw [if_neg n1, if_neg n2]; rfl
    · rw [if_neg q, if_pos wl_0, if_pos wl_0]
      exact ⟨-2147483648, _, _, rfl, rfl, h⟩
