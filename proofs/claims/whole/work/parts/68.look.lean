/-! look and level -/
theorem bit_at {a t : Nat} (h : a < 65536) (ht : t < 16) : andI (shrI (a : Int) (t : Int)) 1 = if a.testBit t = true then 1 else 0 := by
  rw [shr_n (by omega) (by omega)]
  have e : andI ((a / 2 ^ t : Nat) : Int) 1 = (((a / 2 ^ t) &&& 1 : Nat) : Int) := and_nat (b := 1) (Nat.lt_of_le_of_lt (Nat.div_le_self _ _) (by omega))
  rw [e, Nat.and_one_is_mod, Nat.testBit_eq_decide_div_mod_eq]
  by_cases q : a / 2 ^ t % 2 = 1
  · rw [if_pos (by simp [q])]; omega
  · rw [if_neg (by simp [q])]; omega
theorem knows_t {U R M : St} {w a : Nat} (hU : U.1 9 = (w : Int)) (hM : M.1 4 = (w : Int)) (h8 : w ≤ 8) (ha : a ≤ 5) : fX2_knowsOfThing (U, R) (a : Int) = some ((if (a = 2 ∧ ¬ (w = 2 ∨ w = 3)) ∨ (a = 3 ∧ w ≠ 3) ∨ (a = 4 ∧ ¬ (w = 5 ∨ w = 6)) ∨ (a = 5 ∧ w ≠ 7) then 0 else 1), (U, R)) ∧ fX4_isOfWay M (a : Int) = some ((if (a = 2 ∧ ¬ (w = 2 ∨ w = 3)) ∨ (a = 3 ∧ w ≠ 3) ∨ (a = 4 ∧ ¬ (w = 5 ∨ w = 6)) ∨ (a = 5 ∧ w ≠ 7) then 0 else 1), M) := by
  obtain q | q | q | q | q | q | q | q | q : w = 0 ∨ w = 1 ∨ w = 2 ∨ w = 3 ∨ w = 4 ∨ w = 5 ∨ w = 6 ∨ w = 7 ∨ w = 8 := by omega
  all_goals subst q
  all_goals (obtain q | q | q | q | q | q : a = 0 ∨ a = 1 ∨ a = 2 ∨ a = 3 ∨ a = 4 ∨ a = 5 := by omega)
  all_goals subst q
  all_goals (unfold fX2_knowsOfThing fX2_knowsOfThing_j48 fX2_knowsOfThing_j53 fX2_knowsOfThing_j67 fX2_knowsOfThing_j87 fX2_hasBooks fX2_hasBooks_j17 fX2_hasBooks_j22 fX4_isOfWay fX4_isOfWay_j48 fX4_isOfWay_j53 fX4_isOfWay_j67 fX4_isOfWay_j87 fX4_isOfParts fX4_isOfParts_j17 fX4_isOfParts_j22; rw [show (U, R).1.1 9 = _ from hU, hM]; exact ⟨rfl, rfl⟩)
theorem tell_t {S R M : St} {n : Nat} {r p : Nat → Nat} {w k i ly a t : Nat} {occ : Nat → Prop} (h : SH S R M n r p w k i ly occ) (ht : t < 16) (ha : a ≤ 5) (hk : ¬ ((a = 2 ∧ ¬ (w = 2 ∨ w = 3)) ∨ (a = 3 ∧ w ≠ 3) ∨ (a = 4 ∧ ¬ (w = 5 ∨ w = 6)) ∨ (a = 5 ∧ w ≠ 7))) : ∃ v, fX2_tellOfThing (S, R) (t : Int) (a : Int) = some (v, (S, R)) ∧ (if wr (a : Int) = 0 then (bd (t : Int) 16 (if wr (M.2 13 (Int.toNat (t : Int))) = 0 then (fX4_look_j110 0 M) else (fX4_look_j110 1 M))) else (if wr (a : Int) = 1 then (bd (t : Int) 16 (some ((M.2 16 (Int.toNat (t : Int))), M))) else (if wr (a : Int) = 2 then (bd (t : Int) 16 (if wr (M.2 17 (Int.toNat (t : Int))) = 0 then (fX4_look_j132 0 M) else (fX4_look_j132 1 M))) else (if wr (a : Int) = 3 then (bd (t : Int) 16 (some ((M.2 18 (Int.toNat (t : Int))), M))) else (if wr (a : Int) = 4 then (bd (t : Int) 16 (some ((M.2 19 (Int.toNat (t : Int))), M))) else (bd (t : Int) 16 (some ((M.2 21 (Int.toNat (t : Int))), M)))))))) = some (v, M) := by
  obtain ⟨hR, hb, hsc, ⟨mk, hmk, hmk2, hmk3, hmk4⟩, hC, hT, hP, hN⟩ := h
  have hTt := hT t ht
  have hl := (TH_r hTt).2.2.2
  have hlies := c_lies (S := S) (R := R) ht (TH_r hTt).1.1
  obtain ⟨a1, a2, a3, a4, -, a6, -, -, -⟩ := hTt
  have l0 : M.2 13 t = 0 → fX2_lies (S, R) (t : Int) = some (0, (S, R)) := fun z => by rw [hlies, if_neg (show ¬ (S.2 1 t = 1 ∨ S.2 1 t = 2) by omega)]
  have l1 : M.2 13 t = 1 → fX2_lies (S, R) (t : Int) = some (1, (S, R)) := fun z => by rw [hlies, if_pos (show S.2 1 t = 1 ∨ S.2 1 t = 2 by omega)]
  clear hlies
  unfold fX2_tellOfThing
  obtain q | q | q | q | q | q : a = 0 ∨ a = 1 ∨ a = 2 ∨ a = 3 ∨ a = 4 ∨ a = 5 := by omega
  · subst q
    rw [show wr ((0 : Nat) : Int) = 0 from rfl, if_pos (show (0 : Int) = 0 from rfl), if_pos (show (0 : Int) = 0 from rfl), bd_n ht, Int.toNat_natCast]
    rcases hl with z | z
    · rw [l0 z, cls_s, if_pos wl_0, z, if_pos wl_0]
      exact ⟨0, rfl, rfl⟩
    · rw [l1 z, cls_s, if_neg w1, z, if_neg w1]
      exact ⟨1, rfl, rfl⟩
  · subst q
    rw [show wr ((1 : Nat) : Int) = 1 from rfl, if_neg (show ¬ (1 : Int) = 0 by decide), if_neg (show ¬ (1 : Int) = 0 by decide), if_pos (show (1 : Int) = 1 from rfl), if_pos (show (1 : Int) = 1 from rfl)]
    rcases hl with z | z
    · rw [l0 z, cls_s, if_pos wl_0, bd_n ht, Int.toNat_natCast, (a6 z).1]
      exact ⟨0, rfl, rfl⟩
    · rw [l1 z, cls_s, if_neg w1, bd_n ht, bd_n ht, Int.toNat_natCast]
      refine ⟨M.2 16 t, ?_, rfl⟩
      show some (S.2 5 t, _) = _
      rw [(a4 z).1]
  · subst q
    rw [show wr ((2 : Nat) : Int) = 2 from rfl, if_neg (show ¬ (2 : Int) = 0 by decide), if_neg (show ¬ (2 : Int) = 0 by decide), if_neg (show ¬ (2 : Int) = 1 by decide), if_neg (show ¬ (2 : Int) = 1 by decide), if_pos (show (2 : Int) = 2 from rfl), if_pos (show (2 : Int) = 2 from rfl), show (S, R).1.1 12 = (mk : Int) from hmk2, bit_at hmk ht, bd_n ht, Int.toNat_natCast]
    rcases hmk3 (by omega) t ht with ⟨z1, z2, z3⟩ | ⟨z1, z2⟩
    · rw [if_pos z1, z2, if_neg w1]
      exact ⟨1, rfl, rfl⟩
    · have z1' : ¬ mk.testBit t = true := by rw [z1]; decide
      rw [if_neg z1', z2, if_pos wl_0]
      exact ⟨0, rfl, rfl⟩
  · subst q
    rw [show wr ((3 : Nat) : Int) = 3 from rfl, if_neg (show ¬ (3 : Int) = 0 by decide), if_neg (show ¬ (3 : Int) = 0 by decide), if_neg (show ¬ (3 : Int) = 1 by decide), if_neg (show ¬ (3 : Int) = 1 by decide), if_neg (show ¬ (3 : Int) = 2 by decide), if_neg (show ¬ (3 : Int) = 2 by decide), if_pos (show (3 : Int) = 3 from rfl), if_pos (show (3 : Int) = 3 from rfl)]
    rcases hl with z | z
    · rw [l0 z, cls_s, if_pos wl_0, bd_n ht, Int.toNat_natCast, (a6 z).2.2]
      exact ⟨-1, rfl, rfl⟩
    · rw [l1 z, cls_s, if_neg w1, bd_n ht, bd_n ht, Int.toNat_natCast]
      refine ⟨M.2 18 t, ?_, rfl⟩
      show some (S.2 7 t, _) = _
      rw [(a4 z).2.2.2.2.2.2.2.2.2]
  · subst q
    rw [show wr ((4 : Nat) : Int) = 4 from rfl, if_neg (show ¬ (4 : Int) = 0 by decide), if_neg (show ¬ (4 : Int) = 0 by decide), if_neg (show ¬ (4 : Int) = 1 by decide), if_neg (show ¬ (4 : Int) = 1 by decide), if_neg (show ¬ (4 : Int) = 2 by decide), if_neg (show ¬ (4 : Int) = 2 by decide), if_neg (show ¬ (4 : Int) = 3 by decide), if_neg (show ¬ (4 : Int) = 3 by decide), if_pos (show (4 : Int) = 4 from rfl), if_pos (show (4 : Int) = 4 from rfl), bd_n ht, bd_n ht, Int.toNat_natCast, a2 (by omega)]
    exact ⟨S.2 1 t, rfl, rfl⟩
  · subst q
    rw [show wr ((5 : Nat) : Int) = 5 from rfl, if_neg (show ¬ (5 : Int) = 0 by decide), if_neg (show ¬ (5 : Int) = 0 by decide), if_neg (show ¬ (5 : Int) = 1 by decide), if_neg (show ¬ (5 : Int) = 1 by decide), if_neg (show ¬ (5 : Int) = 2 by decide), if_neg (show ¬ (5 : Int) = 2 by decide), if_neg (show ¬ (5 : Int) = 3 by decide), if_neg (show ¬ (5 : Int) = 3 by decide), if_neg (show ¬ (5 : Int) = 4 by decide), if_neg (show ¬ (5 : Int) = 4 by decide)]
    rcases hl with z | z
    · rw [l0 z, cls_s, if_pos wl_0, bd_n ht, Int.toNat_natCast, (a6 z).2.1]
      exact ⟨0, rfl, rfl⟩
    · rw [l1 z, cls_s, if_neg w1, bd_n ht, bd_n ht, Int.toNat_natCast]
      refine ⟨M.2 21 t, ?_, rfl⟩
      show some (S.2 6 t, _) = _
      rw [(a4 z).2.2.2.2.2.2.1]
theorem call_look {J R U V T M : St} {a b c : Int} (h : Rel (J, R, U, V, T) M) (ha : wr a = a) (hb : wr b = b) (hc : wr c = c) : CA (fX3_look (J, R, U, V, T) a b c) (fX4_look M a b c) := by
  obtain ⟨n, r, p, h1, h2, h3, h4⟩ := id h
  unfold fX3_look fX4_look
  rcases h3 with ⟨x, y⟩ | ⟨x, y, z, u, w, k, s, v1, v2, v3⟩
  · rw [show (J, R, U, V, T).1.1 11 = 0 from x, y, if_pos wl_0, if_pos wl_0]
    exact ⟨-3, _, _, rfl, rfl, h⟩
  · rw [show (J, R, U, V, T).1.1 11 = 1 from x, y, if_neg w1, if_neg w1, e_has h1.1 h1.2.2.1 ha, m_isAsking ha h1.2.1 h1.2.2.1, cls_s, cls_s]
    by_cases q : 0 ≤ a ∧ a < (n : Int)
    · rw [if_pos q, if_neg w1, if_neg w1, e_isThing hb, m_isThing hb, clp_s, clp_s]
      by_cases q2 : 0 ≤ b ∧ b < 16
      · rw [if_pos q2, if_neg w1, if_neg w1, m_in hc wl_0 wl_5, clp_s]
        by_cases q3 : 0 ≤ c ∧ c ≤ 5
        · have n1 : ¬ wr c < 0 := by rw [hc]; omega
          have n2 : wr c ≤ wr 5 := by rw [hc, wl_5]; omega
          rw [if_pos q3, if_neg w1, if_neg n1, if_pos n2]
          obtain ⟨i, rfl⟩ := nat_of q.1
          obtain ⟨t, rfl⟩ := nat_of q2.1
          obtain ⟨d, rfl⟩ := nat_of q3.1
          obtain ⟨⟨h8, hk1, hk8, -⟩, u9, u10, u11, ux⟩ := AT_b v3 h1
          obtain ⟨kn1, kn2⟩ := knows_t (R := R) (a := d) u9 v1 h8 (by omega)
          rw [show fX2_knowsOfThing ((J, R, U, V, T).2.2.1, (J, R, U, V, T).2.1) (d : Int) = _ from kn1, kn2, cls_s, cls_s]
          by_cases q4 : (d = 2 ∧ ¬ (w = 2 ∨ w = 3)) ∨ (d = 3 ∧ w ≠ 3) ∨ (d = 4 ∧ ¬ (w = 5 ∨ w = 6)) ∨ (d = 5 ∧ w ≠ 7)
          · rw [if_pos q4, if_pos wl_0, if_pos wl_0]
            exact ⟨-2147483647, _, _, rfl, rfl, h⟩
          · rw [if_neg q4, if_neg w1, if_neg w1]
            obtain ⟨U', R', b1, b2, b3⟩ := c_behind h1 v3 (show i < n by omega)
            obtain ⟨M', ly, c1, c2, c3⟩ := b2 M (RR_row h1 b3)
            have hs := m_serveTo_l (show i < n by omega) h1.2.2.1 c1
            obtain ⟨v, d1, d2⟩ := tell_t (a := d) c2 (show t < 16 by omega) (by omega) q4
            rw [v1, v2, hs, clv_s, show fX2_standBehind (U, R) (i : Int) = some (U', R') from b1, clv_s, show fX2_tellOfThing (U', R') (t : Int) (d : Int) = _ from d1, cls_s]
            refine ⟨v, _, M', rfl, d2, n, r, p, RelA_fr ⟨RR_row h1 b3, h2, Or.inr ⟨x, y, z, u, w, k, i + 1, v1, v2, b2⟩, TBL_row h4 b3⟩ c3⟩
        · rw [if_neg q3, if_pos wl_0]
          refine ⟨-2147483648, _, _, ?_, rfl, h⟩
          by_cases z : c < 0
          · have n1 : wr c < 0 := by rw [hc]; exact z
            rw [if_pos n1]; rfl
          · have n1 : ¬ wr c < 0 := by rw [hc]; exact z
            have n2 : ¬ wr c ≤ wr 5 := by rw [hc, wl_5]; omega
            rw [if_neg n1, if_neg n2]; rfl
      · rw [if_neg q2, if_pos wl_0, if_pos wl_0]
        exact ⟨-2147483648, _, _, rfl, rfl, h⟩
    · rw [if_neg q, if_pos wl_0, if_pos wl_0]
      exact ⟨-2147483648, _, _, rfl, rfl, h⟩
