/-! cost: one asking on each side -/
theorem mc_171 {K : Int → Int → Int → Int → St → Option (Int × St)} {M : St} {s x pr : Nat} {v1 v2 v3 : Int} (hs3 : s < 300) (hx : x < 16) (b : M.2 1 s = (x : Int)) (hp : M.2 0 x = (pr : Int)) : fX4_cost_j171 K v1 v2 v3 (s : Int) 0 M = K v1 (v2 + 1) (v3 + (pr : Int)) ((s + 1 : Nat) : Int) (setA M 33 x 1) ∧ fX4_cost_j171 K v1 v2 v3 (s : Int) 1 M = K v1 v2 v3 ((s + 1 : Nat) : Int) M := by
  have b' : (setA M 33 x 1).2 1 s = (x : Int) := by rw [sA2, if_neg (by decide)]; exact b
  have hp' : (setA M 33 x 1).2 0 x = (pr : Int) := by rw [sA2, if_neg (by decide)]; exact hp
  constructor
  · unfold fX4_cost_j171 fX4_cost_j207
    rw [if_pos wl_0, bd_n hs3, cb_1, Int.toNat_natCast, b, bd_n hx, Int.toNat_natCast, nm_q, nm_q, bd_n hs3, b', bd_n hx, Int.toNat_natCast, hp', nm_q, nm_q, up1]
  · unfold fX4_cost_j171 fX4_cost_j207
    rw [if_neg w1, nm_q, up1]
theorem mc_101 {K : Int → Int → Int → Int → St → Option (Int × St)} {M : St} {D : Nat} {v1 v2 v3 v4 v5 v6 : Int} (h : ST M D) (hg : -2 ≤ v5 ∧ v5 < 16) : (v5 = -1 → fX4_cost_j101 K v1 v2 v3 v4 v5 v6 0 M = fX4_cost_j171 K v1 v2 v3 v4 v6 M) ∧ (v5 ≠ -1 → fX4_cost_j101 K v1 v2 v3 v4 v5 v6 0 M = some (-2 - v4, M)) ∧ (v5 < 0 → fX4_cost_j101 K v1 v2 v3 v4 v5 v6 1 M = some (-2 - v4, M)) ∧ (∀ y : Nat, v5 = (y : Int) → D.testBit y = false → fX4_cost_j101 K v1 v2 v3 v4 v5 v6 1 M = some (-2 - v4, M)) ∧ (∀ y : Nat, v5 = (y : Int) → D.testBit y = true → fX4_cost_j101 K v1 v2 v3 v4 v5 v6 1 M = fX4_cost_j171 K v1 (v2 + (-1)) v3 v4 v6 (setA M 33 y 0)) := by
  have wg : wr v5 = v5 := wr_id (by omega)
  refine ⟨fun z => ?_, fun z => ?_, fun z => ?_, fun y hy hb => ?_, fun y hy hb => ?_⟩
  · unfold fX4_cost_j101 fX4_cost_j142
    rw [nm_q, if_pos wl_0, wg, wl_m1, if_pos z, nm_q, if_neg w1, if_pos wl_0]
  · unfold fX4_cost_j101 fX4_cost_j142
    rw [nm_q, if_pos wl_0, wg, wl_m1, if_neg z, nm_q, if_pos wl_0]
    rfl
  · have z' : wr v5 < 0 := by rw [wg]; exact z
    unfold fX4_cost_j101
    rw [nm_q, if_neg w1, if_pos z']
    unfold fX4_cost_j127 fX4_cost_j142
    rw [nm_q, if_pos wl_0]
    rfl
  · have z' : ¬ wr v5 < 0 := by rw [wg]; omega
    subst hy
    have hy16 : y < 16 := by omega
    have e : M.2 33 y = 0 := by rw [h.2 y hy16, hb]; rfl
    unfold fX4_cost_j101
    rw [nm_q, if_neg w1, if_neg z', bd_n hy16, Int.toNat_natCast, e, if_pos wl_0]
    unfold fX4_cost_j127 fX4_cost_j142
    rw [nm_q, if_pos wl_0]
    rfl
  · have z' : ¬ wr v5 < 0 := by rw [wg]; omega
    subst hy
    have hy16 : y < 16 := by omega
    have e : M.2 33 y = 1 := by rw [h.2 y hy16, hb]; rfl
    unfold fX4_cost_j101
    rw [nm_q, if_neg w1, if_neg z', bd_n hy16, Int.toNat_natCast, e, if_neg w1]
    unfold fX4_cost_j142
    rw [nm_q, if_neg w1, if_neg w1, cb_0, bd_n hy16, Int.toNat_natCast, nm_q, nm_q]
theorem mc_70 {K : Int → Int → Int → Int → St → Option (Int × St)} {M : St} {D s x : Nat} {k c : Nat} {v3 g : Int} (h : ST M D) (hs3 : s < 300) (hx : x < 16) (b : M.2 1 s = (x : Int)) (hc : c ≤ 16) (hk : k ≤ 8) : fX4_cost_j70 K (k : Int) (c : Int) v3 (s : Int) g M = fX4_cost_j101 K (k : Int) (c : Int) v3 (s : Int) g (if D.testBit x = true then 1 else 0) (if D.testBit x = false ∧ c = k then 1 else 0) M := by
  unfold fX4_cost_j70
  rw [nm_q, bd_n hs3, Int.toNat_natCast, b, bd_n hx, Int.toNat_natCast, h.2 x hx, nm_q]
  by_cases q : D.testBit x = true
  · rw [if_pos q, if_neg w1, if_neg (show ¬ (D.testBit x = false ∧ c = k) from fun z => by rw [z.1] at q; cases q)]
    rfl
  · have q' : D.testBit x = false := by simpa using q
    rw [if_neg q, if_pos wl_0]
    by_cases z : c = k
    · have e : wr (c : Int) = wr (k : Int) := by rw [z]
      rw [if_pos e, if_pos ⟨q', z⟩]
    · have e : ¬ wr (c : Int) = wr (k : Int) := by rw [wr_nat (by omega), wr_nat (by omega)]; omega
      rw [if_neg e, if_neg (fun y => z y.2)]
      rfl
