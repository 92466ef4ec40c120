/-! distance and curve -/
def bu (r : Nat → Nat) (j : Nat) : Nat → Nat
  | 0 => 0
  | s + 1 => bu r j s ||| 2 ^ (r (j + s))
theorem bu_b (r : Nat → Nat) (j s t : Nat) : (bu r j (s + 1)).testBit t = ((bu r j s).testBit t || decide (t = r (j + s))) := orb_bit _ _ _
theorem bu_iff (r : Nat → Nat) (j t : Nat) : ∀ s, (bu r j s).testBit t = true ↔ ∃ u, j ≤ u ∧ u < j + s ∧ r u = t := by
  intro s
  induction s with
  | zero =>
    constructor
    · intro h
      have e : (bu r j 0).testBit t = false := by show (0 : Nat).testBit t = false; simp
      rw [e] at h; cases h
    · rintro ⟨u, a, b, -⟩; omega
  | succ s ih =>
    rw [bu_b, Bool.or_eq_true, ih, decide_eq_true_iff]
    constructor
    · rintro (⟨u, a, b, c⟩ | h)
      · exact ⟨u, a, by omega, c⟩
      · exact ⟨j + s, by omega, by omega, h.symm⟩
    · rintro ⟨u, a, b, c⟩
      by_cases z : u = j + s
      · rw [z] at c; exact Or.inr c.symm
      · exact Or.inl ⟨u, a, by omega, c⟩
theorem cn_or1 {a x : Nat} (hx : x < 16) : cn (fun t => (a ||| 2 ^ x).testBit t = true) 16 = cn (fun t => a.testBit t = true) 16 + (if a.testBit x = true then 0 else 1) := by
  have h := cn_upd (c := fun t => a.testBit t = true) (c' := fun t => (a ||| 2 ^ x).testBit t = true) (n := 16) hx (fun t _ ht => by rw [orb_bit]; simp [ht])
  have e : (a ||| 2 ^ x).testBit x = true := by rw [orb_bit]; simp
  rw [if_pos e] at h
  by_cases q : a.testBit x = true
  · rw [if_pos q] at h ⊢; omega
  · rw [if_neg q] at h ⊢; omega
theorem m_dist {M : St} {n : Nat} {r : Nat → Nat} (hn3 : n ≤ 300) (hr : ∀ i, i < n → r i < 16 ∧ M.2 1 i = (r i : Int)) {i c : Nat} (hi : i < n) (hc : c < i) : fX4_distanceOf_j29 (i : Int) (c : Int) M = some (((cn (fun t => (bu r (c + 1) (i - c)).testBit t = true) 16 : Nat) : Int), M) := by
  have inn : ∀ (K : Int → Int → Int → Int → St → Option (Int × St)) (v3 : Int) (s : Nat), c + 1 + s ≤ i → ∀ (d u f : Nat), u + d = s → d < f → fX4_distanceOf_l56 K f (i : Int) (c : Int) v3 ((c + 1 + s : Nat) : Int) (if (bu r (c + 1) u).testBit (r (c + 1 + s)) = true then 0 else 1) ((c + 1 + u : Nat) : Int) M = fX4_distanceOf_j98 K (i : Int) (c : Int) v3 ((c + 1 + s : Nat) : Int) (if (bu r (c + 1) s).testBit (r (c + 1 + s)) = true then 0 else 1) M := by
    intro K v3 s hs d
    induction d with
    | zero =>
      intro u f hu hf
      obtain ⟨f', rfl⟩ : ∃ f', f = f' + 1 := ⟨f - 1, by omega⟩
      have hus : u = s := by omega
      subst hus
      unfold fX4_distanceOf_l56
      rw [if_pos (Int.le_refl _)]
    | succ d ih =>
      intro u f hu hf
      obtain ⟨f', rfl⟩ : ∃ f', f = f' + 1 := ⟨f - 1, by omega⟩
      have e : ¬ wr ((c + 1 + s : Nat) : Int) ≤ wr ((c + 1 + u : Nat) : Int) := by rw [wr_nat (by omega), wr_nat (by omega)]; omega
      have hh := ih (u + 1) f' (by omega) (by omega)
      rw [bu_b] at hh
      obtain ⟨x1, x2⟩ := hr (c + 1 + u) (by omega)
      obtain ⟨y1, y2⟩ := hr (c + 1 + s) (by omega)
      unfold fX4_distanceOf_l56
      rw [if_neg e]
      unfold fX4_distanceOf_j89 fX4_distanceOf_j90
      have e5 : ((c + 1 + u : Nat) : Int) + 1 = ((c + 1 + (u + 1) : Nat) : Int) := by omega
      by_cases q : (bu r (c + 1) u).testBit (r (c + 1 + s)) = true
      · rw [if_pos q, if_pos wl_0, nm_q, nm_q, e5]
        rw [q, Bool.true_or, if_pos rfl] at hh
        exact hh
      · have q' : (bu r (c + 1) u).testBit (r (c + 1 + s)) = false := by simpa using q
        rw [q', Bool.false_or] at hh
        rw [if_neg q, if_neg w1, bd_n (show c + 1 + u < 300 by omega), bd_n (show c + 1 + s < 300 by omega), Int.toNat_natCast, Int.toNat_natCast, x2, y2]
        by_cases z : r (c + 1 + u) = r (c + 1 + s)
        · have e6 : wr ((r (c + 1 + u) : Nat) : Int) = wr ((r (c + 1 + s) : Nat) : Int) := by rw [z]
          rw [if_pos e6, nm_q, nm_q, e5]
          rw [if_pos (by simp [z])] at hh
          exact hh
        · have e6 : ¬ wr ((r (c + 1 + u) : Nat) : Int) = wr ((r (c + 1 + s) : Nat) : Int) := by rw [wr_nat (by omega), wr_nat (by omega)]; omega
          rw [if_neg e6, nm_q, nm_q, e5]
          rw [if_neg (by simp; exact fun y => z y.symm)] at hh
          exact hh
  have out : ∀ (d s f : Nat), c + s + d = i → d < f → fX4_distanceOf_l42 f (i : Int) (c : Int) ((cn (fun t => (bu r (c + 1) s).testBit t = true) 16 : Nat) : Int) ((c + 1 + s : Nat) : Int) M = some (((cn (fun t => (bu r (c + 1) (i - c)).testBit t = true) 16 : Nat) : Int), M) := by
    intro d
    induction d with
    | zero =>
      intro s f hs hf
      obtain ⟨f', rfl⟩ : ∃ f', f = f' + 1 := ⟨f - 1, by omega⟩
      have hsi : i - c = s := by omega
      have e : wr (i : Int) < wr ((c + 1 + s : Nat) : Int) := by rw [wr_nat (by omega), wr_nat (by omega)]; omega
      unfold fX4_distanceOf_l42
      rw [if_pos e, hsi]
      rfl
    | succ d ih =>
      intro s f hs hf
      obtain ⟨f', rfl⟩ : ∃ f', f = f' + 1 := ⟨f - 1, by omega⟩
      have e : ¬ wr (i : Int) < wr ((c + 1 + s : Nat) : Int) := by rw [wr_nat (by omega), wr_nat (by omega)]; omega
      have hh := ih (s + 1) f' (by omega) (by omega)
      have h0 := inn (fX4_distanceOf_l42 f') ((cn (fun t => (bu r (c + 1) s).testBit t = true) 16 : Nat) : Int) s (by omega) s 0 FU (by omega) (FU_gt (by omega))
      rw [show (bu r (c + 1) 0).testBit (r (c + 1 + s)) = false by show (0 : Nat).testBit _ = false; simp, if_neg (by decide)] at h0
      obtain ⟨y1, y2⟩ := hr (c + 1 + s) (by omega)
      have ec : cn (fun t => (bu r (c + 1) (s + 1)).testBit t = true) 16 = _ := cn_or1 (a := bu r (c + 1) s) y1
      rw [ec] at hh
      unfold fX4_distanceOf_l42
      rw [if_neg e, nm_q, nm_q]
      refine Eq.trans h0 ?_
      unfold fX4_distanceOf_j98 fX4_distanceOf_j109
      have e5 : ((c + 1 + s : Nat) : Int) + 1 = ((c + 1 + (s + 1) : Nat) : Int) := by omega
      by_cases q : (bu r (c + 1) s).testBit (r (c + 1 + s)) = true
      · rw [if_pos q] at hh
        rw [if_pos q, if_pos wl_0, nm_q, nm_q, e5, Int.add_zero]
        exact hh
      · rw [if_neg q] at hh
        rw [if_neg q, if_neg w1, nm_q, nm_q, e5, up1]
        exact hh
  have e : 0 ≤ wr (c : Int) := by rw [wr_nat (by omega)]; omega
  unfold fX4_distanceOf_j29
  rw [if_pos e, nm_q, nm_q, up1]
  have h0 := out (i - c) 0 FU (by omega) (FU_gt (by omega))
  have e0 : cn (fun t => (bu r (c + 1) 0).testBit t = true) 16 = 0 := by
    show cn (fun t => (0 : Nat).testBit t = true) 16 = 0
    decide
  rw [e0] at h0
  exact h0
theorem dist_rel {R M : St} {n : Nat} {r p : Nat → Nat} {i : Nat} (h : RR R M n r p) (hi : i < n) : ∃ v : Nat, v ≤ 16 ∧ fX1_distanceAt R (i : Int) = some ((v : Int), R) ∧ fX4_distanceOf M (i : Int) = some ((v : Int), M) := by
  have hn3 := h.2.2.1
  have hr1 : ∀ i, i < n → r i < 16 ∧ R.2 0 i = (r i : Int) := fun i hi => ⟨(h.2.2.2.1 i hi).1, (h.2.2.2.1 i hi).2.1⟩
  have hr2 : ∀ i, i < n → r i < 16 ∧ M.2 1 i = (r i : Int) := fun i hi => ⟨(h.2.2.2.1 i hi).1, (h.2.2.2.1 i hi).2.2⟩
  obtain ⟨z1, z2⟩ := hr1 i hi
  obtain ⟨-, z3⟩ := hr2 i hi
  have key : ∀ (c f f2 D : Nat), c ≤ i → c < f → c < f2 → D < 65536 → (∀ t, D.testBit t = true ↔ ∃ u, c ≤ u ∧ u ≤ i ∧ r u = t) → ∃ v : Nat, v ≤ 16 ∧ fX1_distanceAt_l13 f (i : Int) (D : Int) ((c : Int) - 1) R = some ((v : Int), R) ∧ fX4_distanceOf_l4 f2 (i : Int) ((c : Int) - 1) M = some ((v : Int), M) := by
    intro c
    induction c with
    | zero =>
      intro f f2 D _ hf hf2 _ _
      obtain ⟨f', rfl⟩ : ∃ f', f = f' + 1 := ⟨f - 1, by omega⟩
      obtain ⟨f2', rfl⟩ : ∃ f', f2 = f' + 1 := ⟨f2 - 1, by omega⟩
      have e : wr (((0 : Nat) : Int) - 1) < 0 := by rw [wr_id (by omega)]; omega
      have e' : ¬ 0 ≤ wr (((0 : Nat) : Int) - 1) := by omega
      refine ⟨0, by omega, ?_, ?_⟩
      · unfold fX1_distanceAt_l13
        rw [if_pos e]; rfl
      · unfold fX4_distanceOf_l4 fX4_distanceOf_j29
        rw [if_pos e, if_neg e']; rfl
    | succ c ih =>
      intro f f2 D hci hf hf2 hD hb
      obtain ⟨f', rfl⟩ : ∃ f', f = f' + 1 := ⟨f - 1, by omega⟩
      obtain ⟨f2', rfl⟩ : ∃ f', f2 = f' + 1 := ⟨f2 - 1, by omega⟩
      have e0 : ((c + 1 : Nat) : Int) - 1 = (c : Int) := by omega
      rw [e0]
      have e : ¬ wr (c : Int) < 0 := by rw [wr_nat (by omega)]; omega
      obtain ⟨x1, x2⟩ := hr1 c (by omega)
      obtain ⟨-, x3⟩ := hr2 c (by omega)
      have hc3 : c < 300 := by omega
      have hi3 : i < 300 := by omega
      unfold fX1_distanceAt_l13 fX4_distanceOf_l4
      rw [if_neg e, if_neg e]
      simp only [bd_n hc3, bd_n hi3]
      simp only [Int.toNat_natCast, x2, z2, x3, z3]
      by_cases q : r c = r i
      · have e2 : wr ((r c : Nat) : Int) = wr ((r i : Nat) : Int) := by rw [q]
        rw [if_pos e2, if_pos e2, m_dist hn3 hr2 hi (by omega)]
        unfold fX1_distanceAt_j32
        rw [e_bitCount hD, clp_s]
        have ec : cn (fun t => D.testBit t = true) 16 = cn (fun t => (bu r (c + 1) (i - c)).testBit t = true) 16 := cn_congr fun t _ => by
          rw [hb, bu_iff]
          constructor
          · rintro ⟨u, a, b, d⟩; exact ⟨u, a, by omega, d⟩
          · rintro ⟨u, a, b, d⟩; exact ⟨u, a, by omega, d⟩
        exact ⟨cn (fun t => (bu r (c + 1) (i - c)).testBit t = true) 16, cn_le _ 16, by rw [ec], rfl⟩
      · have e2 : ¬ wr ((r c : Nat) : Int) = wr ((r i : Nat) : Int) := by rw [wr_nat (by omega), wr_nat (by omega)]; omega
        obtain ⟨o1, o2⟩ := or_bit hD x1
        rw [if_neg e2, if_neg e2, o1]
        simp only [nm_q]
        exact ih f' f2' _ (by omega) (by omega) (by omega) o2 (fun t => by
          rw [orb_bit, Bool.or_eq_true, hb, decide_eq_true_iff]
          constructor
          · rintro (⟨u, a, b, d⟩ | d)
            · exact ⟨u, by omega, b, d⟩
            · exact ⟨c, by omega, by omega, d.symm⟩
          · rintro ⟨u, a, b, d⟩
            by_cases y : u = c
            · rw [y] at d; exact Or.inr d.symm
            · exact Or.inl ⟨u, by omega, b, d⟩)
  have o0 : 2 ^ (r i) < 65536 := Nat.pow_lt_pow_right (a := 2) (m := r i) (n := 16) (by decide) z1
  obtain ⟨v, v1, v2, v3⟩ := key i FU FU (2 ^ (r i)) (Nat.le_refl _) (FU_gt (by omega)) (FU_gt (by omega)) o0 (fun t => by
    rw [Nat.testBit_two_pow, decide_eq_true_iff]
    constructor
    · intro q; exact ⟨i, Nat.le_refl _, Nat.le_refl _, q⟩
    · rintro ⟨u, a, b, d⟩
      have : u = i := by omega
      rw [this] at d; exact d)
  refine ⟨v, v1, ?_, ?_⟩
  · unfold fX1_distanceAt
    rw [bd_n (show i < 300 by omega), Int.toNat_natCast, z2, shl1 (by omega), nm_q, nm_q]
    exact v2
  · unfold fX4_distanceOf
    rw [nm_q]
    exact v3
theorem call_distance {J R U V T M : St} {a : Int} (h : Rel (J, R, U, V, T) M) (ha : wr a = a) : CA (fX3_distance (J, R, U, V, T) a) (fX4_distance M a) := by
  obtain ⟨n, r, p, h1, h2, h3, h4⟩ := id h
  unfold fX3_distance fX4_distance
  rw [e_has h1.1 h1.2.2.1 ha, m_isAsking ha h1.2.1 h1.2.2.1, cls_s, cls_s]
  by_cases q : 0 ≤ a ∧ a < (n : Int)
  · obtain ⟨x, rfl⟩ := nat_of q.1
    obtain ⟨v, -, b1, b2⟩ := dist_rel h1 (show x < n by omega)
    rw [if_pos q, if_neg w1, if_neg w1, b2, show fX1_distanceAt _ (x : Int) = _ from b1, cls_s, cls_s]
    exact ⟨(v : Int), _, _, rfl, rfl, h⟩
  · rw [if_neg q, if_pos wl_0, if_pos wl_0]
    exact ⟨-1, _, _, rfl, rfl, h⟩
