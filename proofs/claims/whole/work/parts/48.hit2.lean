/-! a hit keeps what judge and model have in common -/
def FR (M M' : St) : Prop := (∀ j, j < 11 → M'.1 j = M.1 j) ∧ ∀ a t, a ≤ 12 → M'.2 a t = M.2 a t
theorem FR_rf (M : St) : FR M M := ⟨fun _ _ => rfl, fun _ _ _ => rfl⟩
theorem FR_tr {A B C : St} (h : FR A B) (g : FR B C) : FR A C := ⟨fun j hj => (g.1 j hj).trans (h.1 j hj), fun a t ha => (g.2 a t ha).trans (h.2 a t ha)⟩
theorem RR_keep {R M M' : St} {n : Nat} {r p : Nat → Nat} (h : RR R M n r p) (f : FR M M') : RR R M' n r p := by
  obtain ⟨h1, h2, h3, h4, h5⟩ := h
  refine ⟨h1, (f.1 2 (by decide)).trans h2, h3, fun i hi => ?_, fun t ht => ?_⟩
  · obtain ⟨a, b, c⟩ := h4 i hi
    exact ⟨a, b, (f.2 1 i (by decide)).trans c⟩
  · obtain ⟨a, b, c, d⟩ := h5 t ht
    exact ⟨a, b, c, (f.2 0 t (by decide)).trans d⟩
theorem TH_r {S M : St} {r : Nat → Nat} {w k i t : Nat} {occ : Nat → Prop} (h : TH S M r w k i occ t) : (wr (S.2 1 t) = S.2 1 t ∧ 0 ≤ S.2 1 t ∧ S.2 1 t < 5) ∧ (wr (M.2 13 t) = M.2 13 t) ∧ (wr (M.2 19 t) = M.2 19 t ∧ 0 ≤ M.2 19 t ∧ M.2 19 t < 5) ∧ (M.2 13 t = 0 ∨ M.2 13 t = 1) := by
  obtain ⟨a1, a2, a3, -⟩ := h
  have h1 : 0 ≤ S.2 1 t ∧ S.2 1 t < 5 := by omega
  have h2 : M.2 13 t = 0 ∨ M.2 13 t = 1 := by omega
  have h3 : 0 ≤ M.2 19 t ∧ M.2 19 t < 5 := by
    by_cases hb : w = 5 ∨ w = 6
    · have := a2 hb; omega
    · have := (a3 hb).2; omega
  exact ⟨⟨wr_id (by omega), h1⟩, wr_id (by omega), ⟨wr_id (by omega), h3⟩, h2⟩
theorem hit_rel {S R M : St} {n : Nat} {r p : Nat → Nat} {w k i ly : Nat} {occ : Nat → Prop} (h : SH S R M n r p w k i ly occ) (hi : i < n) (hl : M.2 13 (r i) = 1) : ∃ S' M', fX2_step (S, R) = some (-1, (S', R)) ∧ fX4_serveOne M (i : Int) = some M' ∧ SH S' R M' n r p w k (i + 1) ly occ ∧ S'.1 17 = 1 ∧ M'.1 27 = 1 ∧ M'.1 28 = -1 ∧ FR M M' := by
  obtain ⟨hR, ⟨h8, hk1, hk8, hin, hlyk⟩, hsc, ⟨mk, hmk, hmk2, hmk3, hmk4⟩, hC, hT, hP, hN⟩ := h
  obtain ⟨r1, r2, r3, r4, r5⟩ := id hR
  obtain ⟨c1, c2, c3, c4, c5, c6, c7, c8, c9, c10, c11, c12, c13, c14, c15, c16, c17, c18, c19⟩ := hsc
  obtain ⟨x16, rx, mx⟩ := r4 i hi
  obtain ⟨p1, p2, p3, p4⟩ := r5 (r i) x16
  have hx0 := hT (r i) x16
  obtain ⟨⟨w1, v1, v2⟩, w2, ⟨w3, v3, v4⟩, w4⟩ := TH_r hx0
  have hS1 : S.2 1 (r i) = 1 ∨ S.2 1 (r i) = 2 := by rcases hx0.1 with q | q <;> omega
  refine ⟨endS (meS (setI S 17 1) w (r i) mk) R (r i), hiM (setI (setI M 27 1) 28 (-1)) w (r i) i, ?_, ?_, ?_, ?_, ?_, ?_, ?_⟩
  · have hlies : fX2_lies (S, R) ((r i : Nat) : Int) = some (1, (S, R)) := by rw [c_lies x16 w1, if_pos hS1]
    have hm : fX2_meet (setI S 17 1, R) ((r i : Nat) : Int) = _ := c_meet (w := w) (mk := mk) x16 (by simp only [sI1, Nat.reduceEqDiff, ↓reduceIte]; exact c1) h8 (by simp only [sI1, Nat.reduceEqDiff, ↓reduceIte]; exact hmk2) hmk ⟨v1, v2⟩
    have hhas : fX1_has R (i : Int) = some (1, R) := by rw [e_has r1 r3 (wr_nat (show i < 2147483648 by omega)), if_pos ⟨by omega, by omega⟩]
    simp only [fX2_step, c5, hhas, cls_s, nm, Int.toNat_natCast, rx, bd_n (show i < 300 by omega), hlies, cb_1, sI1, ↓reduceIte, wl_1, Int.one_ne_zero, hm, clv_s, c_end x16]
  · have hh : (clv (fX4_hit (setI (setI M 27 1) 28 (-1)) ((r i : Nat) : Int) (i : Int)) (fun u => u) fun Y124 => fX4_serveOne_j236 (i : Int) ((r i : Nat) : Int) Y124) = _ := m_hit (w := w) (i := i) x16 (by simp only [sI1, Nat.reduceEqDiff, ↓reduceIte]; exact c2) h8 w3
    simp only [fX4_serveOne, fX4_serveOne_j22, nm, Int.toNat_natCast, mx, bd_n (show i < 300 by omega), bd_n x16, hl, wl_1, Int.one_ne_zero, ↓reduceIte, sI2]
    exact hh
  · have hFR : FR M (hiM (setI (setI M 27 1) 28 (-1)) w (r i) i) := ⟨fun j hj => by rw [hiM_1]; simp only [sI1]; rw [if_neg (by omega), if_neg (by omega)], fun a t ha => by rw [hiM_o _ _ _ _ _ _ (Or.inl ha)]; rfl⟩
    obtain ⟨x13, x14, x15, x16', x17, x18, x19, x21⟩ := hiM_x (setI (setI M 27 1) 28 (-1)) w (r i) i
    obtain ⟨y1, y3, y4, y5, y6, y7⟩ := meS_x (setI S 17 1) w (r i) mk
    have n1 : ∀ t, t ≠ r i → ∀ a, a ≠ 2 → (endS (meS (setI S 17 1) w (r i) mk) R (r i)).2 a t = S.2 a t := fun t ht a ha => by rw [endS_2, if_neg ht, meS_n _ _ _ _ _ ht a ha]; rfl
    have n2 : ∀ t, t ≠ r i → ∀ a, (hiM (setI (setI M 27 1) 28 (-1)) w (r i) i).2 a t = M.2 a t := fun t ht a => by rw [hiM_n _ _ _ _ _ ht a]; rfl
    have n8 : ∀ q, (endS (meS (setI S 17 1) w (r i) mk) R (r i)).2 8 q = S.2 8 q := fun q => by rw [endS_2, meS_8]; simp [sI2]
    have n3 : ∀ j, j ≠ 11 → j ≠ 12 → j ≠ 17 → (endS (meS (setI S 17 1) w (r i) mk) R (r i)).1 j = S.1 j := fun j h1 h2 h3 => by rw [endS_1, if_neg h1, meS_1 _ _ _ _ j h2, sI1, if_neg h3]
    have n4 : ∀ j, j ≠ 27 → j ≠ 28 → (hiM (setI (setI M 27 1) 28 (-1)) w (r i) i).1 j = M.1 j := fun j h1 h2 => by rw [hiM_1, sI1, if_neg h2, sI1, if_neg h1]
    have n13 : ∀ t, (hiM (setI (setI M 27 1) 28 (-1)) w (r i) i).2 13 t = M.2 13 t := fun t => by
      by_cases e : t = r i
      · subst e; exact x13
      · exact n2 t e 13
    have hCn : CNT (endS (meS (setI S 17 1) w (r i) mk) R (r i)) := by
      have hC' : CNT (setI (setA (setI S 17 1) 5 (r i) ((setI S 17 1).2 5 (r i) + 1)) 12 ((mk ||| 2 ^ (r i) : Nat) : Int)) := hC
      have hC2 : CNT (meS (setI S 17 1) w (r i) mk) := by
        unfold meS
        split
        · exact mv_cnt hC' x16 (by decide) (by simp only [sI2, sA2, Nat.reduceEqDiff, ↓reduceIte]; exact ⟨v1, v2⟩)
        · exact hC'
      intro j j1 j4
      have q := hC2 j j1 j4
      have e2 : (endS (meS (setI S 17 1) w (r i) mk) R (r i)).2 2 j = (meS (setI S 17 1) w (r i) mk).2 2 j := by rw [endS_2]; simp
      rw [e2, q]
      congr 1
    refine ⟨RR_keep hR hFR, ⟨h8, hk1, hk8, hi, hlyk⟩, ?_, ?_, hCn, ?_, ?_, hN⟩
    · have g1 := hC 1 (by decide) (by decide)
      have g2 := hC 2 (by decide) (by decide)
      have g3 := hC 3 (by decide) (by decide)
      have g4 := hC 4 (by decide) (by decide)
      have f1 := hCn 1 (by decide) (by decide)
      have f2 := hCn 2 (by decide) (by decide)
      have f3 := hCn 3 (by decide) (by decide)
      have f4 := hCn 4 (by decide) (by decide)
      have e11 : (endS (meS (setI S 17 1) w (r i) mk) R (r i)).1 11 = ((i + 1 : Nat) : Int) := by rw [endS_1, if_pos rfl, meS_1 _ _ _ _ 11 (by decide), sI1, if_neg (by decide), c5]; rfl
      have u3 := cn_congr (c := fun t => (endS (meS (setI S 17 1) w (r i) mk) R (r i)).2 1 t = ((3 : Nat) : Int)) (c' := fun t => S.2 1 t = ((3 : Nat) : Int)) (n := 16) (fun t ht => by
        by_cases e : t = r i
        · subst e; rw [endS_2, if_pos rfl]; simp only [Nat.reduceEqDiff, ↓reduceIte]; rw [y1]; split <;> (try simp only [sI2]) <;> omega
        · rw [n1 t e 1 (by decide)])
      have u4 := cn_congr (c := fun t => (endS (meS (setI S 17 1) w (r i) mk) R (r i)).2 1 t = ((4 : Nat) : Int)) (c' := fun t => S.2 1 t = ((4 : Nat) : Int)) (n := 16) (fun t ht => by
        by_cases e : t = r i
        · subst e; rw [endS_2, if_pos rfl]; simp only [Nat.reduceEqDiff, ↓reduceIte]; rw [y1]; split <;> (try simp only [sI2]) <;> omega
        · rw [n1 t e 1 (by decide)])
      have o1 := cn_or (c := fun t => S.2 1 t = ((1 : Nat) : Int)) (d := fun t => S.2 1 t = ((2 : Nat) : Int)) (e := fun t => S.2 1 t = 1 ∨ S.2 1 t = 2) (n := 16) (fun t _ => Iff.rfl) (fun t _ a b => by omega)
      have o2 := cn_or (c := fun t => (endS (meS (setI S 17 1) w (r i) mk) R (r i)).2 1 t = ((1 : Nat) : Int)) (d := fun t => (endS (meS (setI S 17 1) w (r i) mk) R (r i)).2 1 t = ((2 : Nat) : Int)) (e := fun t => S.2 1 t = 1 ∨ S.2 1 t = 2) (n := 16) (fun t ht => by
        by_cases e : t = r i
        · subst e; rw [endS_2, if_pos rfl]; simp only [Nat.reduceEqDiff, ↓reduceIte]; rw [y1]; split <;> (try simp only [sI2]) <;> omega
        · rw [n1 t e 1 (by decide)]; omega) (fun t _ a b => by omega)
      refine ⟨(n3 9 (by decide) (by decide) (by decide)).trans c1, (n4 11 (by decide) (by decide)).trans c2, (n3 10 (by decide) (by decide) (by decide)).trans c3, (n4 12 (by decide) (by decide)).trans c4, e11, (n4 22 (by decide) (by decide)).trans c6, by omega, ?_⟩
      rw [n4 23 (by decide) (by decide), n4 24 (by decide) (by decide), n4 25 (by decide) (by decide), n4 26 (by decide) (by decide), n3 13 (by decide) (by decide) (by decide), n3 14 (by decide) (by decide) (by decide), n3 15 (by decide) (by decide) (by decide), n3 16 (by decide) (by decide) (by decide)]
      exact ⟨c8, c9, c10, c11, c12, c13, c14, c15, c16, by omega, by omega, by omega⟩
    · obtain ⟨-, hlt⟩ := or_bit (t := r i) hmk x16
      refine ⟨mk ||| 2 ^ (r i), hlt, by rw [endS_1, if_neg (by decide), meS_mk], fun hw t ht => ?_, fun hw t ht => ?_⟩
      · rw [n13, orb_bit]
        by_cases e : t = r i
        · subst e
          left
          rw [x17, if_pos hw]
          exact ⟨by simp, rfl, hl⟩
        · rw [n2 t e 17]
          simpa [e] using hmk3 hw t ht
      · by_cases e : t = r i
        · subst e; rw [x17, if_neg hw]
        · rw [n2 t e 17]; exact hmk4 hw t ht
    · intro t ht
      by_cases e : t = r i
      · subst e
        obtain ⟨a1, a2, a3, a4, a5, a6, a7, a8, a9⟩ := hx0
        obtain ⟨b1, b2, b3, b4, b5, b6, b7, b8, b9, b10⟩ := a4 hl
        have E1 : (endS (meS (setI S 17 1) w (r i) mk) R (r i)).2 1 (r i) = (if w = 5 ∨ w = 6 then 2 else S.2 1 (r i)) := by rw [endS_2]; simp only [↓reduceIte, Nat.reduceEqDiff]; exact y1
        have E3 : ¬ (w = 5 ∨ w = 6) → (endS (meS (setI S 17 1) w (r i) mk) R (r i)).2 3 (r i) = S.2 3 (r i) := fun q => by rw [endS_2]; simp only [↓reduceIte, Nat.reduceEqDiff]; exact y3 q
        have E4 : (endS (meS (setI S 17 1) w (r i) mk) R (r i)).2 4 (r i) = (i : Int) := by rw [endS_2]; simp only [↓reduceIte, Nat.reduceEqDiff]; rw [meS_1 _ _ _ _ 11 (by decide)]; exact c5
        have E5 : (endS (meS (setI S 17 1) w (r i) mk) R (r i)).2 5 (r i) = S.2 5 (r i) + 1 := by rw [endS_2]; simp only [↓reduceIte, Nat.reduceEqDiff]; exact y5
        have E6 : (endS (meS (setI S 17 1) w (r i) mk) R (r i)).2 6 (r i) = S.1 16 + (p (r i) : Int) := by rw [endS_2]; simp only [↓reduceIte]; rw [meS_1 _ _ _ _ 16 (by decide), p3]; rfl
        have E7 : (endS (meS (setI S 17 1) w (r i) mk) R (r i)).2 7 (r i) = S.2 7 (r i) := by rw [endS_2]; simp only [↓reduceIte, Nat.reduceEqDiff]; exact y7
        have F21 : (hiM (setI (setI M 27 1) 28 (-1)) w (r i) i).2 21 (r i) = M.1 26 + (p (r i) : Int) := by rw [x21]; simp only [sI1, sI2, Nat.reduceEqDiff, ↓reduceIte]; rw [p4]
        have F16 : (hiM (setI (setI M 27 1) 28 (-1)) w (r i) i).2 16 (r i) = M.2 16 (r i) + 1 := x16'
        have F18 : (hiM (setI (setI M 27 1) 28 (-1)) w (r i) i).2 18 (r i) = M.2 18 (r i) := x18
        have F14 : (hiM (setI (setI M 27 1) 28 (-1)) w (r i) i).2 14 (r i) = M.2 14 (r i) := x14
        unfold TH
        rw [E1, E4, E5, E6, E7, n13, x15, F16, F18, F14, x19, F21]
        refine ⟨Or.inl ⟨hl, by split <;> omega⟩, fun q => by rw [if_pos q], fun q => by rw [if_neg q]; exact ⟨by have := (a3 q).1; omega, by omega⟩, fun _ => ⟨by omega, by omega, by omega, rfl, by omega, by omega, by omega, by omega, by omega, b10⟩, fun _ => ?_, fun q => by omega, fun q1 q2 => ?_, fun q1 q2 => ?_, fun q1 q2 => ?_⟩
        · obtain ⟨u, d1, d2, d3, d4⟩ := a5 hl
          exact ⟨u, d1, d2, d3, (n8 u).trans d4⟩
        · rw [E3 (by omega)]
          obtain ⟨d1, d2, d3⟩ := a7 q1 q2
          exact ⟨d1, d2, by omega⟩
        · rw [if_pos q1] at q2; omega
        · exact ⟨by simp, fun j d1 d2 => by omega⟩
      · refine TH_keep (hT t ht) (by omega) ⟨n1 t e 1 (by decide), n1 t e 3 (by decide), n1 t e 4 (by decide), n1 t e 5 (by decide), n1 t e 6 (by decide), n1 t e 7 (by decide)⟩ ⟨n2 t e 13, n2 t e 14, n2 t e 15, n2 t e 16, n2 t e 18, n2 t e 19, n2 t e 20, n2 t e 21⟩ (fun q _ ho _ => ⟨ho, n8 q⟩) (fun _ _ j d1 d2 => ?_)
        have : j = i := by omega
        subst this
        exact fun q => e q.symm
    · intro q hq ho
      obtain ⟨t, d1, d2, d3, d4⟩ := hP q hq ho
      refine ⟨t, d1, (n8 q).trans d2, (n13 t).trans d3, ?_⟩
      by_cases e : t = r i
      · subst e; exact x18.trans d4
      · exact (n2 t e 18).trans d4
  · rw [endS_1, if_neg (by decide), meS_1 _ _ _ _ 17 (by decide)]; rfl
  · rw [hiM_1]; rfl
  · rw [hiM_1]; rfl
  · exact ⟨fun j hj => by rw [hiM_1]; simp only [sI1]; rw [if_neg (by omega), if_neg (by omega)], fun a t ha => by rw [hiM_o _ _ _ _ _ _ (Or.inl ha)]; rfl⟩
