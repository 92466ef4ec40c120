/-! the call cost: begin -/
def c33 (M : St) (t : Nat) : St := (M.1, fun a x => if a = 33 ∧ x < t then 0 else M.2 a x)
theorem c33_s (M : St) (t : Nat) : setA (c33 M t) 33 t 0 = c33 M (t + 1) := by
  refine st_ext (fun _ => rfl) (fun a x => ?_)
  rw [sA2]
  unfold c33
  simp only
  grind
theorem m_c33 {v1 : Int} {M : St} : ∀ (d t f : Nat), t + d = 16 → d < f → fX4_cost_l14 f v1 (t : Int) (c33 M t) = fX4_cost_l40 FU v1 0 0 0 (c33 M 16) := by
  intro d
  induction d with
  | zero =>
    intro t f hs hf
    obtain ⟨f', rfl⟩ : ∃ f', f = f' + 1 := ⟨f - 1, by omega⟩
    have hsn : t = 16 := by omega
    subst hsn
    have e : wr 16 ≤ wr ((16 : Nat) : Int) := by decide
    unfold fX4_cost_l14
    rw [if_pos e, nm_q, nm_q, nm_q]
  | succ d ih =>
    intro t f hs hf
    obtain ⟨f', rfl⟩ : ∃ f', f = f' + 1 := ⟨f - 1, by omega⟩
    have e : ¬ wr 16 ≤ wr (t : Int) := by rw [wl_16, wr_nat (by omega)]; omega
    unfold fX4_cost_l14
    rw [if_neg e, cb_0, bd_n (show t < 16 by omega), Int.toNat_natCast, c33_s, nm_q, nm_q, up1]
    exact ih (t + 1) f' (by omega) (by omega)
theorem call_cost {J R U V T M : St} {a : Int} (h : Rel (J, R, U, V, T) M) (ha : wr a = a) : CA (fX3_cost (J, R, U, V, T) a) (fX4_cost M a) := by
  obtain ⟨n, r, p, hA⟩ := id h
  have hn3 := hA.1.2.2.1
  unfold fX3_cost fX4_cost
  rw [e_isPlaces ha, m_in ha wl_1 wl_8, clp_s, clp_s]
  by_cases q : 1 ≤ a ∧ a ≤ 8
  · obtain ⟨k, rfl⟩ := nat_of (show 0 ≤ a by omega)
    rw [if_pos q, if_neg w1, if_neg w1, nm_q, nm_q, nm_q, nm_q]
    have hcl := m_c33 (v1 := (k : Int)) (M := M) 16 0 FU (by omega) (FU_gt (by omega))
    have ec0 : c33 M 0 = M := st_ext (fun _ => rfl) (fun x t => by unfold c33; simp)
    rw [ec0] at hcl
    have h0 : ST (c33 M 16) 0 := ⟨by decide, fun t ht => by
      show (if 33 = 33 ∧ t < 16 then 0 else M.2 33 t) = _
      rw [if_pos ⟨rfl, ht⟩]; simp⟩
    have hF0 : FR M (c33 M 16) := ⟨fun _ _ => rfl, fun x t hx => by
      show (if x = 33 ∧ t < 16 then 0 else M.2 x t) = _
      rw [if_neg (by omega)]⟩
    have hz : cn (fun t => (0 : Nat).testBit t = true) 16 = 0 := by decide
    have hl := cost_loop (V := V) (k := k) (by omega) n 0 FU FU 0 0 (c33 M 16) (RelA_fr hA hF0) h0 (by rw [hz]; omega) (by omega) (FU_gt (by omega)) (FU_gt (by omega))
    rw [hz] at hl
    rw [show fX4_cost_l14 FU (k : Int) 0 M = _ from hcl]
    exact hl
  · rw [if_neg q, if_pos wl_0, if_pos wl_0]
    exact ⟨-1, _, _, rfl, rfl, h⟩
