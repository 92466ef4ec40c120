/-! the call cost -/
theorem cg_val {g : Int} {D x k : Nat} (hD : D < 65536) (hx : x < 16) (hk : k ≤ 8) (hc : cn (fun t => D.testBit t = true) 16 ≤ k) : fX3_canGo g (D : Int) (shlI 1 (x : Int)) (k : Int) = fX3_canGo_j19 g (D : Int) (if D.testBit x = false ∧ cn (fun t => D.testBit t = true) 16 = k then 1 else 0) := by
  have hb := wr_bit (a := D) (t := x) (by omega) (by omega)
  unfold fX3_canGo fX3_canGo_j18
  by_cases q : D.testBit x = false
  · rw [if_pos (hb.mpr q), e_bitCount hD, clp_s]
    by_cases z : cn (fun t => D.testBit t = true) 16 = k
    · have e : ¬ wr ((cn (fun t => D.testBit t = true) 16 : Nat) : Int) < wr (k : Int) := by rw [z]; exact Int.lt_irrefl _
      rw [if_neg e, if_pos ⟨q, z⟩]
    · have e : wr ((cn (fun t => D.testBit t = true) 16 : Nat) : Int) < wr (k : Int) := by rw [wr_nat (by omega), wr_nat (by omega)]; omega
      rw [if_pos e, if_neg (fun y => z y.2)]
  · rw [if_neg (fun y => q (hb.mp y)), if_neg (fun y => q y.1)]
theorem c_93 {K : Int → Int → Int → Int → (St × St × St × St × St) → Option (Int × (St × St × St × St × St))} {J R U V T : St} {D s x : Nat} {v1 v3 g : Int} (hs3 : s < 300) (hx : x < 16) (hD : D < 65536) (hg : J.2 5 s = g) (hg2 : -1 ≤ g ∧ g < 16) : (g = -1 → fX3_cost_j93 K v1 (D : Int) v3 (s : Int) (shlI 1 (x : Int)) (J, R, U, V, T) = K v1 ((D ||| 2 ^ x : Nat) : Int) v3 ((s + 1 : Nat) : Int) (J, R, U, V, T)) ∧ (∀ y : Nat, g = (y : Int) → fX3_cost_j93 K v1 (D : Int) v3 (s : Int) (shlI 1 (x : Int)) (J, R, U, V, T) = K v1 ((clr D y ||| 2 ^ x : Nat) : Int) v3 ((s + 1 : Nat) : Int) (J, R, U, V, T)) := by
  have wg : wr g = g := wr_id (by omega)
  constructor
  · intro z
    unfold fX3_cost_j93 fX3_cost_j118
    rw [bd_n hs3, Int.toNat_natCast, show (J, R, U, V, T).1.2 5 s = g from hg, wg, wl_m1, if_pos z, (or_bit hD hx).1, nm_q, nm_q, up1]
  · intro y hy
    unfold fX3_cost_j93 fX3_cost_j118
    rw [bd_n hs3, Int.toNat_natCast, show (J, R, U, V, T).1.2 5 s = g from hg, wg, wl_m1, if_neg (show ¬ g = -1 by omega), bd_n hs3, hy, and_not hD (by omega), nm_q, (or_bit (clr_lt hD) hx).1, nm_q, nm_q, up1]
theorem cost_loop {J R U V T : St} {n : Nat} {r p : Nat → Nat} {k : Nat} (hk : 1 ≤ k ∧ k ≤ 8) : ∀ (d s f f2 D : Nat) (pd : Int) (M : St), RelA J R U T M n r p → ST M D → cn (fun t => D.testBit t = true) 16 ≤ k → s + d = n → d < f → d < f2 → CA (fX3_cost_l16 f (k : Int) (D : Int) pd (s : Int) (J, R, U, V, T)) (fX4_cost_l40 f2 (k : Int) ((cn (fun t => D.testBit t = true) 16 : Nat) : Int) pd (s : Int) M) := by
  intro d
  induction d with
  | zero =>
    intro s f f2 D pd M hA hS hc hs hf hf2
    obtain ⟨f', rfl⟩ : ∃ f', f = f' + 1 := ⟨f - 1, by omega⟩
    obtain ⟨f2', rfl⟩ : ∃ f', f2 = f' + 1 := ⟨f2 - 1, by omega⟩
    have hsn : s = n := by omega
    subst hsn
    have h := hA.1
    obtain ⟨m, x1, x2, x3, x4⟩ := hA.2.1
    have e : wr ((J, R, U, V, T).2.1.1 4) ≤ wr (s : Int) := by show wr (R.1 4) ≤ _; rw [h.1]; exact Int.le_refl _
    have e2 : wr (M.1 2) ≤ wr (s : Int) := by rw [h.2.1]; exact Int.le_refl _
    unfold fX3_cost_l16 fX4_cost_l40
    rw [if_pos e, if_pos e2]
    unfold fX3_cost_j129 fX4_cost_j213
    rw [show (J, R, U, V, T).1.1 8 = (m : Int) from x2, x3, show (J, R, U, V, T).2.1.1 4 = (s : Int) from h.1, h.2.1]
    by_cases q : wr (m : Int) ≤ wr (s : Int)
    · rw [if_pos q, if_pos q]
      exact ⟨pd, _, _, rfl, rfl, s, r, p, hA⟩
    · rw [if_neg q, if_neg q]
      exact ⟨-2 - (s : Int), _, _, rfl, rfl, s, r, p, hA⟩
  | succ d ih =>
    intro s f f2 D pd M hA hS hc hs hf hf2
    obtain ⟨f', rfl⟩ : ∃ f', f = f' + 1 := ⟨f - 1, by omega⟩
    obtain ⟨f2', rfl⟩ : ∃ f', f2 = f' + 1 := ⟨f2 - 1, by omega⟩
    have h := hA.1
    have hn3 := h.2.2.1
    obtain ⟨m, x1, x2, x3, x4⟩ := hA.2.1
    have e : ¬ wr ((J, R, U, V, T).2.1.1 4) ≤ wr (s : Int) := by show ¬ wr (R.1 4) ≤ _; rw [h.1, wr_nat (by omega), wr_nat (by omega)]; omega
    have e2 : ¬ wr (M.1 2) ≤ wr (s : Int) := by rw [h.2.1, wr_nat (by omega), wr_nat (by omega)]; omega
    have hs3 : s < 300 := by omega
    obtain ⟨hx, b1, b2⟩ := h.2.2.2.1 s (by omega)
    obtain ⟨-, -, hp1, hp2⟩ := h.2.2.2.2 (r s) hx
    have hcl := cn_le (fun t => D.testBit t = true) 16
    have epr : fX1_priceAt R (s : Int) = some ((p (r s) : Int), R) := by
      unfold fX1_priceAt
      rw [bd_n hs3, Int.toNat_natCast, b1, bd_n hx, Int.toNat_natCast, hp1]
    have hb := wr_bit (a := D) (t := r s) (by have := hS.1; omega) (by omega)
    unfold fX3_cost_l16 fX4_cost_l40
    rw [if_neg e, if_neg e2, bd_n hs3, Int.toNat_natCast, show (J, R, U, V, T).2.1.2 0 s = (r s : Int) from b1, nm_q, show (J, R, U, V, T).1.1 8 = (m : Int) from x2, x3]
    by_cases q : wr (m : Int) ≤ wr (s : Int)
    · rw [if_pos q, if_pos q, mc_70 hS hs3 hx b2 hcl hk.2]
      obtain ⟨-, g2, g3, -⟩ := mc_101 (K := fX4_cost_l40 f2') (v1 := (k : Int)) (v2 := ((cn (fun t => D.testBit t = true) 16 : Nat) : Int)) (v3 := pd) (v4 := (s : Int)) (v5 := -2) (v6 := if D.testBit (r s) = true then 1 else 0) hS (by omega)
      by_cases z : D.testBit (r s) = false ∧ cn (fun t => D.testBit t = true) 16 = k
      · rw [if_pos z, g3 (by decide)]
        exact ⟨-2 - (s : Int), _, _, rfl, rfl, n, r, p, hA⟩
      · rw [if_neg z, g2 (by decide)]
        exact ⟨-2 - (s : Int), _, _, rfl, rfl, n, r, p, hA⟩
    · have hsm : s < m := by rw [wr_nat (by omega), wr_nat (by omega)] at q; omega
      obtain ⟨e5, e6⟩ := x4 s hsm
      rw [if_neg q, if_neg q, bd_n hs3, bd_n hs3, ← e5, mc_70 hS hs3 hx b2 hcl hk.2, show fX3_canGo ((J, R, U, V, T).1.2 5 s) (D : Int) (shlI 1 ((r s : Nat) : Int)) (k : Int) = _ from cg_val hS.1 hx hk.2 hc]
      generalize hg : J.2 5 s = g at *
      obtain ⟨j1, j2, j3⟩ := go_j19 (D := D) (x := 0) hS.1 e6
      obtain ⟨g1, g2, g3, g4, g5⟩ := mc_101 (K := fX4_cost_l40 f2') (v1 := (k : Int)) (v2 := ((cn (fun t => D.testBit t = true) 16 : Nat) : Int)) (v3 := pd) (v4 := (s : Int)) (v5 := g) (v6 := if D.testBit (r s) = true then 1 else 0) hS (by omega)
      obtain ⟨k1, k2⟩ := c_93 (K := fX3_cost_l16 f') (R := R) (U := U) (V := V) (T := T) (v1 := (k : Int)) (v3 := pd) hs3 hx hS.1 hg e6
      obtain ⟨l1, l2⟩ := c_93 (K := fX3_cost_l16 f') (R := R) (U := U) (V := V) (T := T) (v1 := (k : Int)) (v3 := pd + (p (r s) : Int)) hs3 hx hS.1 hg e6
      obtain ⟨t1, t2⟩ := mc_171 (K := fX4_cost_l40 f2') (v1 := (k : Int)) (v2 := ((cn (fun t => D.testBit t = true) 16 : Nat) : Int)) (v3 := pd) hs3 hx b2 hp2
      have ho := cn_or1 (a := D) hx
      by_cases q1 : D.testBit (r s) = true
      · have nf : ¬ (D.testBit (r s) = false ∧ cn (fun t => D.testBit t = true) 16 = k) := fun z => by rw [z.1] at q1; cases q1
        have nb : ¬ wr (andI (D : Int) (shlI 1 ((r s : Nat) : Int))) = 0 := fun z => by rw [hb.mp z] at q1; cases q1
        rw [if_neg nf, j1]
        by_cases z : g = -1
        · rw [if_pos z, clp_s, if_neg w1, if_neg nb, k1 z, g1 z, if_pos q1, t2]
          have eD : D ||| 2 ^ (r s) = D := Nat.eq_of_testBit_eq fun i => by
            rw [orb_bit]
            by_cases y : i = r s
            · rw [y, q1]; rfl
            · simp [y]
          rw [eD]
          exact ih (s + 1) f' f2' D pd M hA hS hc (by omega) (by omega) (by omega)
        · rw [if_neg z, clp_s, if_pos wl_0, g2 z]
          exact ⟨-2 - (s : Int), _, _, rfl, rfl, n, r, p, hA⟩
      · have q1' : D.testBit (r s) = false := by simpa using q1
        have yb : wr (andI (D : Int) (shlI 1 ((r s : Nat) : Int))) = 0 := hb.mpr q1'
        rw [if_neg q1] at ho g1 g2 g3 g4 g5
        by_cases q3 : cn (fun t => D.testBit t = true) 16 = k
        · rw [if_pos ⟨q1', q3⟩, if_neg q1]
          by_cases z : g < 0
          · rw [j3 (by omega), clp_s, if_pos wl_0, g3 z]
            exact ⟨-2 - (s : Int), _, _, rfl, rfl, n, r, p, hA⟩
          · obtain ⟨y, hy⟩ := nat_of (show 0 ≤ g by omega)
            have hy16 : y < 16 := by omega
            by_cases q4 : D.testBit y = true
            · rw [j2 y hy, if_pos q4, clp_s, if_neg w1, if_pos yb, show fX1_priceAt (J, R, U, V, T).2.1 (s : Int) = _ from epr, cls_s, nm_q, g5 y hy q4]
              have b2' : (setA M 33 y 0).2 1 s = (r s : Int) := by rw [sA2, if_neg (by decide)]; exact b2
              have hp2' : (setA M 33 y 0).2 0 (r s) = (p (r s) : Int) := by rw [sA2, if_neg (by decide)]; exact hp2
              rw [(mc_171 (K := fX4_cost_l40 f2') (M := setA M 33 y 0) hs3 hx b2' hp2').1]
              have hcc := cn_clr hS.1 hy16 q4
              have hnx : (clr D y).testBit (r s) = false := by rw [clr_bit hS.1, q1']; rfl
              have ho2 := cn_or1 (a := clr D y) hx
              rw [if_neg (by rw [hnx]; decide)] at ho2
              have hi := ih (s + 1) f' f2' (clr D y ||| 2 ^ (r s)) (pd + (p (r s) : Int)) (setA (setA M 33 y 0) 33 (r s) 1) (RelA_fr hA (FR_tr (FR_33 M y 0) (FR_33 _ (r s) 1))) (ST_set (ST_clr hS) hx) (by omega) (by omega) (by omega) (by omega)
              have ec : ((cn (fun t => D.testBit t = true) 16 : Nat) : Int) + -1 + 1 = ((cn (fun t => (clr D y ||| 2 ^ (r s)).testBit t = true) 16 : Nat) : Int) := by omega
              rw [ec]
              rw [← l2 y hy] at hi
              exact hi
            · rw [j2 y hy, if_neg q4, clp_s, if_pos wl_0, g4 y hy (by simpa using q4)]
              exact ⟨-2 - (s : Int), _, _, rfl, rfl, n, r, p, hA⟩
        · rw [if_neg (fun z => q3 z.2), j1, if_neg q1]
          by_cases z : g = -1
          · rw [if_pos z, clp_s, if_neg w1, if_pos yb, show fX1_priceAt (J, R, U, V, T).2.1 (s : Int) = _ from epr, cls_s, nm_q, g1 z, t1]
            have hi := ih (s + 1) f' f2' (D ||| 2 ^ (r s)) (pd + (p (r s) : Int)) (setA M 33 (r s) 1) (RelA_fr hA (FR_33 M (r s) 1)) (ST_set hS hx) (by omega) (by omega) (by omega) (by omega)
            have ec : ((cn (fun t => D.testBit t = true) 16 : Nat) : Int) + 1 = ((cn (fun t => (D ||| 2 ^ (r s)).testBit t = true) 16 : Nat) : Int) := by omega
            rw [ec]
            rw [← l1 z] at hi
            exact hi
          · rw [if_neg z, clp_s, if_pos wl_0, g2 z]
            exact ⟨-2 - (s : Int), _, _, rfl, rfl, n, r, p, hA⟩
