/-! cost -/
def ST (M : St) (D : Nat) : Prop := D < 65536 ∧ ∀ t, t < 16 → M.2 33 t = if D.testBit t = true then 1 else 0
theorem ST_set {M : St} {D x : Nat} (h : ST M D) (hx : x < 16) : ST (setA M 33 x 1) (D ||| 2 ^ x) := by
  refine ⟨(or_bit h.1 hx).2, fun t ht => ?_⟩
  rw [sA2, if_pos rfl, orb_bit]
  by_cases z : t = x
  · rw [if_pos z]; simp [z]
  · rw [if_neg z, h.2 t ht]; simp [z]
theorem ST_clr {M : St} {D x : Nat} (h : ST M D) : ST (setA M 33 x 0) (clr D x) := by
  refine ⟨clr_lt h.1, fun t ht => ?_⟩
  rw [sA2, if_pos rfl, clr_bit h.1]
  by_cases z : t = x
  · rw [if_pos z]; simp [z]
  · rw [if_neg z, h.2 t ht]; simp [z]
theorem FR_33 (M : St) (x : Nat) (v : Int) : FR M (setA M 33 x v) := ⟨fun _ _ => rfl, fun a t ha => by rw [sA2, if_neg (by omega)]⟩
theorem cn_clr {D x : Nat} (hD : D < 65536) (hx : x < 16) (hb : D.testBit x = true) : cn (fun t => (clr D x).testBit t = true) 16 + 1 = cn (fun t => D.testBit t = true) 16 := by
  have h := cn_upd (c := fun t => D.testBit t = true) (c' := fun t => (clr D x).testBit t = true) (n := 16) hx (fun t _ ht => by rw [clr_bit hD]; simp [ht])
  have e : ¬ (clr D x).testBit x = true := by rw [clr_bit hD]; simp
  rw [if_neg e, if_pos hb] at h
  omega
theorem go_j19 {g : Int} {D x : Nat} (hD : D < 65536) (hg : -1 ≤ g ∧ g < 16) : fX3_canGo_j19 g (D : Int) 0 = some (if g = -1 then 1 else 0) ∧ (∀ y : Nat, g = (y : Int) → fX3_canGo_j19 g (D : Int) 1 = some (if D.testBit y = true then 1 else 0)) ∧ (g = -1 → fX3_canGo_j19 g (D : Int) 1 = some 0) := by
  have wg : wr g = g := wr_id (by omega)
  refine ⟨?_, fun y hy => ?_, fun hy => ?_⟩
  · unfold fX3_canGo_j19 fX3_canGo_j36
    rw [nm_q, if_pos wl_0, wg, wl_m1]
    by_cases q : g = -1
    · rw [if_pos q, if_pos q, cb_1]
    · rw [if_neg q, if_neg q, cb_0]
  · subst hy
    unfold fX3_canGo_j19 fX3_canGo_j56 fX3_canGo_j57
    rw [nm_q, if_neg w1, e_isThing wg, if_pos (show 0 ≤ (y : Int) ∧ (y : Int) < 16 by omega), clp_s, if_neg w1]
    have hb := wr_bit (a := D) (t := y) (by omega) (by omega)
    by_cases q : D.testBit y = true
    · have z : ¬ wr (andI (D : Int) (shlI 1 (y : Int))) = 0 := fun z => by rw [hb.mp z] at q; cases q
      rw [if_neg z, if_pos q, cb_1]
    · have z : wr (andI (D : Int) (shlI 1 (y : Int))) = 0 := hb.mpr (by simpa using q)
      rw [if_pos z, if_neg q, cb_0]
  · unfold fX3_canGo_j19 fX3_canGo_j56 fX3_canGo_j57
    rw [nm_q, if_neg w1, e_isThing wg, if_neg (show ¬ (0 ≤ g ∧ g < 16) by omega), clp_s, if_pos wl_0, cb_0]
