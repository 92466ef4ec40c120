/-! a miss, last: what comes -/
def inA (S : St) (x spot : Nat) : St := setA (setA (setA S 5 x 1) 7 x (spot : Int)) 8 spot (x : Int)
def inB (S : St) (w x spot mk : Nat) : St := if w = 2 then setI (inA S x spot) 12 ((mk ||| 2 ^ x : Nat) : Int) else inA S x spot
theorem inA_2 (S : St) (x spot a t : Nat) : (inA S x spot).2 a t = if a = 8 then (if t = spot then (x : Int) else S.2 8 t) else if a = 7 then (if t = x then (spot : Int) else S.2 7 t) else if a = 5 then (if t = x then 1 else S.2 5 t) else S.2 a t := by
  simp only [inA, sA2]; grind
theorem inB_2 (S : St) (w x spot mk : Nat) : (inB S w x spot mk).2 = (inA S x spot).2 := by unfold inB; split <;> rfl
theorem inB_1 (S : St) (w x spot mk j : Nat) (hj : j ≠ 12) : (inB S w x spot mk).1 j = S.1 j := by unfold inB; split <;> simp [inA, sI1, sA1, hj]
theorem inB_mk (S : St) (w x spot mk : Nat) (hm : S.1 12 = (mk : Int)) : (inB S w x spot mk).1 12 = (((if w = 2 then mk ||| 2 ^ x else mk) : Nat) : Int) := by unfold inB; split <;> simp [inA, sI1, sA1, hm, *]
def inM (M : St) (w x i : Nat) (b : Int) (spot : Nat) : St := setA (setA (setA (setA (setA (setA (setA (setA (setI (setA M 13 x 1) 22 (M.1 22 + 1)) 14 x (i : Int)) 16 x 1) 17 x (if w = 2 then 1 else 0)) 18 x (spot : Int)) 19 x (if b = 0 then 1 else 2)) 20 x (i : Int)) 21 x (M.1 26 + M.2 0 x)) 15 x (i : Int)
theorem m_insert {M : St} {w x i spot : Nat} {b : Int} (hx : x < 16) (hw : M.1 11 = (w : Int)) (h8 : w ≤ 8) (hb : b = 0 ∨ b = 1) : fX4_serveOne_j139 (i : Int) (x : Int) b (spot : Int) M = some (inM M w x i b spot) := by
  simp only [fX4_serveOne_j139, fX4_serveOne_j188, fX4_serveOne_j211, fX4_serveOne_j236, nm, bd_n hx, Int.toNat_natCast, sA1, sI1, sI2, sA2, hw, wr_nat (show w < 2147483648 by omega), wl_2, cb_0, cb_1, Nat.reduceEqDiff, ↓reduceIte, inM]
  by_cases h2 : w = 2
  · subst h2
    rcases hb with rfl | rfl
    · simp only [show ((2 : Nat) : Int) = 2 from rfl, ↓reduceIte, wl_0]
    · simp only [show ((2 : Nat) : Int) = 2 from rfl, ↓reduceIte, wl_1, Int.one_ne_zero]
  · have e2 : ¬ (w : Int) = 2 := by omega
    rcases hb with rfl | rfl
    · simp only [if_neg e2, if_neg h2, wl_0, ↓reduceIte]
    · simp only [if_neg e2, if_neg h2, wl_1, Int.one_ne_zero, ↓reduceIte]
theorem inM_n (M : St) (w x i : Nat) (b : Int) (spot t a : Nat) (h : t ≠ x) : (inM M w x i b spot).2 a t = M.2 a t := by
  simp only [inM, sA2, sI2, if_neg h, ite_self]
theorem inM_x (M : St) (w x i : Nat) (b : Int) (spot : Nat) : (inM M w x i b spot).2 13 x = 1 ∧ (inM M w x i b spot).2 14 x = (i : Int) ∧ (inM M w x i b spot).2 15 x = (i : Int) ∧ (inM M w x i b spot).2 16 x = 1 ∧ (inM M w x i b spot).2 17 x = (if w = 2 then 1 else 0) ∧ (inM M w x i b spot).2 18 x = (spot : Int) ∧ (inM M w x i b spot).2 19 x = (if b = 0 then 1 else 2) ∧ (inM M w x i b spot).2 20 x = (i : Int) ∧ (inM M w x i b spot).2 21 x = M.1 26 + M.2 0 x := by
  simp [inM, sA2, sI2]
theorem inM_o (M : St) (w x i : Nat) (b : Int) (spot a t : Nat) (h : a ≤ 12) : (inM M w x i b spot).2 a t = M.2 a t := by
  simp only [inM, sA2, sI2]; grind
theorem inM_1 (M : St) (w x i : Nat) (b : Int) (spot j : Nat) : (inM M w x i b spot).1 j = if j = 22 then M.1 22 + 1 else M.1 j := by
  simp only [inM, sA1, sI1]
theorem ins_rel {S R M : St} {n : Nat} {r p : Nat → Nat} {w k i ly : Nat} {occ : Nat → Prop} {spot : Nat} {to b v : Int} (h : SH S R M n r p w k i ly occ) (hi : i < n) (hS : S.2 1 (r i) = 0) (hM : M.2 13 (r i) = 0) (hsp : spot < k) (hno : ¬ occ spot) (hly : ly < k) (htb : (to = 1 ∧ b = 0) ∨ (to = 2 ∧ b = 1 ∧ (w = 5 ∨ w = 6))) : ∃ S' M', (cls (fX2_bring_j42 ((r i : Nat) : Int) to (spot : Int) v (S, R)) (fun u => u) fun r9 Y8 => nm r9 fun x10 => fX2_step_j61 ((r i : Nat) : Int) x10 Y8) = some (v, (S', R)) ∧ fX4_serveOne_j139 (i : Int) ((r i : Nat) : Int) b (spot : Int) M = some M' ∧ SH S' R M' n r p w k (i + 1) (ly + 1) (fun q => occ q ∨ q = spot) ∧ S'.1 17 = S.1 17 ∧ M'.1 27 = M.1 27 ∧ M'.1 28 = M.1 28 ∧ FR M M' := by
  obtain ⟨hR, ⟨h8, hk1, hk8, hin, hlyk⟩, hsc, ⟨mk, hmk, hmk2, hmk3, hmk4⟩, hC, hT, hP, hN⟩ := h
  obtain ⟨r1, r2, r3, r4, r5⟩ := id hR
  obtain ⟨c1, c2, c3, c4, c5, c6, c7, c8, c9, c10, c11, c12, c13, c14, c15, c16, c17, c18, c19⟩ := hsc
  obtain ⟨x16, rx, mx⟩ := r4 i hi
  obtain ⟨p1, p2, p3, p4⟩ := r5 (r i) x16
  obtain ⟨tn, htn, htn2⟩ : ∃ tn : Nat, to = (tn : Int) ∧ (tn = 1 ∨ tn = 2) := by
    rcases htb with q | q
    · exact ⟨1, q.1, Or.inl rfl⟩
    · exact ⟨2, q.1, Or.inr rfl⟩
  have hb01 : b = 0 ∨ b = 1 := by omega
  subst htn
  obtain ⟨-, hlt⟩ := or_bit (t := r i) hmk x16
  have hor := (or_bit (t := r i) hmk x16).1
  have hmv : fX2_move (inB S w (r i) spot mk, R) ((r i : Nat) : Int) (tn : Int) = some (mvS (inB S w (r i) spot mk) (r i) tn, R) := c_move x16 (by omega) (by rw [inB_2, inA_2]; simp only [Nat.reduceEqDiff, ↓reduceIte]; omega)
  have hI1 : (inB S w (r i) spot mk).2 1 (r i) = 0 := by rw [inB_2, inA_2]; simp only [Nat.reduceEqDiff, ↓reduceIte]; exact hS
  refine ⟨endS (mvS (inB S w (r i) spot mk) (r i) tn) R (r i), inM M w (r i) i b spot, ?_, m_insert x16 c2 h8 hb01, ?_, ?_, ?_, ?_, ?_⟩
  · have hj : fX2_bring_j42 ((r i : Nat) : Int) (tn : Int) (spot : Int) v (S, R) = some (v, (mvS (inB S w (r i) spot mk) (r i) tn, R)) := by
      simp only [fX2_bring_j42, fX2_bring_j83, nm, bd_n x16, bd_n (show spot < 8 by omega), Int.toNat_natCast, sA1, c1, hmk2, wr_nat (show w < 2147483648 by omega), wl_2]
      by_cases h2 : w = 2
      · have e2 : (w : Int) = 2 := by omega
        simp only [inB, if_pos h2, inA] at hmv ⊢
        simp only [if_pos e2, hor, hmv, clv_s]
      · have e2 : ¬ (w : Int) = 2 := by omega
        simp only [inB, if_neg h2, inA] at hmv ⊢
        simp only [if_neg e2, hmv, clv_s]
    rw [hj]
    simp only [cls_s, nm, c_end x16]
  · have hFR : FR M (inM M w (r i) i b spot) := ⟨fun j hj => by rw [inM_1, if_neg (by omega)], fun a t ha => inM_o _ _ _ _ _ _ _ _ ha⟩
    obtain ⟨x13, x14, x15, x16', x17, x18, x19, x20, x21⟩ := inM_x M w (r i) i b spot
    have n1 : ∀ t, t ≠ r i → ∀ a, a ≠ 2 → a ≠ 8 → (endS (mvS (inB S w (r i) spot mk) (r i) tn) R (r i)).2 a t = S.2 a t := fun t ht a ha hb => by
      rw [endS_2, if_neg ht, mvS_n _ _ _ _ _ ht ha, inB_2, inA_2]
      simp only [if_neg hb, if_neg ht]
      grind
    have n2 : ∀ t, t ≠ r i → ∀ a, (inM M w (r i) i b spot).2 a t = M.2 a t := fun t ht a => inM_n _ _ _ _ _ _ _ _ ht
    have n8 : ∀ q, (endS (mvS (inB S w (r i) spot mk) (r i) tn) R (r i)).2 8 q = if q = spot then ((r i : Nat) : Int) else S.2 8 q := fun q => by
      rw [endS_2]
      simp only [Nat.reduceEqDiff, ↓reduceIte, ite_self]
      rw [mvS_a _ _ _ _ 8 (by decide), inB_2, inA_2]
      simp only [↓reduceIte]
    have n3 : ∀ j, j ≠ 11 → j ≠ 12 → (endS (mvS (inB S w (r i) spot mk) (r i) tn) R (r i)).1 j = S.1 j := fun j h1 h2 => by rw [endS_1, if_neg h1, mvS_1, inB_1 _ _ _ _ _ _ h2]
    have n4 : ∀ j, j ≠ 22 → (inM M w (r i) i b spot).1 j = M.1 j := fun j h1 => by rw [inM_1, if_neg h1]
    have hCB : CNT (inB S w (r i) spot mk) := by
      intro j j1 j4
      have e1 : (inB S w (r i) spot mk).2 2 j = S.2 2 j := by rw [inB_2, inA_2]; simp
      rw [e1, hC j j1 j4]
      congr 1
      refine cn_congr (fun t _ => ?_)
      rw [inB_2, inA_2]; simp
    have hCm := mv_cnt hCB x16 (show tn ≤ 4 by omega) (by rw [hI1]; decide)
    have hCn : CNT (endS (mvS (inB S w (r i) spot mk) (r i) tn) R (r i)) := by
      intro j j1 j4
      have e2 : (endS (mvS (inB S w (r i) spot mk) (r i) tn) R (r i)).2 2 j = (mvS (inB S w (r i) spot mk) (r i) tn).2 2 j := by rw [endS_2]; simp
      rw [e2, hCm j j1 j4]
      congr 1
    have i2 : ∀ j : Nat, 1 ≤ j → (endS (mvS (inB S w (r i) spot mk) (r i) tn) R (r i)).2 2 j = S.2 2 j + (if j = tn then 1 else 0) := fun j hj => by
      have e2 : (endS (mvS (inB S w (r i) spot mk) (r i) tn) R (r i)).2 2 j = (mvS (inB S w (r i) spot mk) (r i) tn).2 2 j := by rw [endS_2]; simp
      have e3 : (mvS (inB S w (r i) spot mk) (r i) tn).2 2 j = (inB S w (r i) spot mk).2 2 j - (if j = ((inB S w (r i) spot mk).2 1 (r i)).toNat then 1 else 0) + (if j = tn then 1 else 0) := rfl
      have e1 : (inB S w (r i) spot mk).2 2 j = S.2 2 j := by rw [inB_2, inA_2]; simp
      rw [e2, e3, e1, hI1, if_neg (show ¬ j = (0 : Int).toNat by simp; omega)]
      omega
    have E1 : (endS (mvS (inB S w (r i) spot mk) (r i) tn) R (r i)).2 1 (r i) = (tn : Int) := by rw [endS_2]; simp only [↓reduceIte, Nat.reduceEqDiff]; exact (mvS_x _ _ _).1
    refine ⟨RR_keep hR hFR, ⟨h8, hk1, hk8, hi, hly⟩, ?_, ?_, hCn, ?_, ?_, hN⟩
    · have e11 : (endS (mvS (inB S w (r i) spot mk) (r i) tn) R (r i)).1 11 = ((i + 1 : Nat) : Int) := by rw [endS_1, if_pos rfl, mvS_1, inB_1 _ _ _ _ _ 11 (by decide), c5]; rfl
      have e22 : (inM M w (r i) i b spot).1 22 = ((ly + 1 : Nat) : Int) := by rw [inM_1, if_pos rfl, c6]; rfl
      have s12 : (endS (mvS (inB S w (r i) spot mk) (r i) tn) R (r i)).2 2 1 + (endS (mvS (inB S w (r i) spot mk) (r i) tn) R (r i)).2 2 2 = ((ly + 1 : Nat) : Int) := by
        rw [i2 1 (by decide), i2 2 (by decide)]
        rcases htn2 with q | q <;> subst q <;> simp <;> omega
      have s3 : (endS (mvS (inB S w (r i) spot mk) (r i) tn) R (r i)).2 2 3 ≤ (k : Int) := by rw [i2 3 (by decide), if_neg (by omega)]; omega
      have s4 : (endS (mvS (inB S w (r i) spot mk) (r i) tn) R (r i)).2 2 4 ≤ (k : Int) := by rw [i2 4 (by decide), if_neg (by omega)]; omega
      refine ⟨(n3 9 (by decide) (by decide)).trans c1, (n4 11 (by decide)).trans c2, (n3 10 (by decide) (by decide)).trans c3, (n4 12 (by decide)).trans c4, e11, e22, s12, ?_⟩
      rw [n4 23 (by decide), n4 24 (by decide), n4 25 (by decide), n4 26 (by decide), n3 13 (by decide) (by decide), n3 14 (by decide) (by decide), n3 15 (by decide) (by decide), n3 16 (by decide) (by decide)]
      exact ⟨c8, c9, c10, c11, c12, c13, c14, c15, c16, by omega, s3, s4⟩
    · refine ⟨if w = 2 then mk ||| 2 ^ (r i) else mk, by split <;> assumption, by rw [endS_1, if_neg (by decide), mvS_1, inB_mk _ _ _ _ _ hmk2], fun hw t ht => ?_, fun hw t ht => ?_⟩
      · by_cases e : t = r i
        · subst e
          by_cases h2 : w = 2
          · left
            rw [if_pos h2, x17, if_pos h2, orb_bit]
            exact ⟨by simp, rfl, x13⟩
          · right
            rw [if_neg h2, x17, if_neg h2]
            refine ⟨?_, rfl⟩
            rcases hmk3 hw (r i) ht with q | q
            · omega
            · exact q.1
        · rw [n2 t e 17, n2 t e 13]
          by_cases h2 : w = 2
          · rw [if_pos h2, orb_bit]
            simpa [e] using hmk3 hw t ht
          · rw [if_neg h2]; exact hmk3 hw t ht
      · by_cases e : t = r i
        · subst e; rw [x17, if_neg (by omega)]
        · rw [n2 t e 17]; exact hmk4 hw t ht
    · intro t ht
      by_cases e : t = r i
      · subst e
        have E3 : (endS (mvS (inB S w (r i) spot mk) (r i) tn) R (r i)).2 3 (r i) = (i : Int) := by
          rw [endS_2]; simp only [↓reduceIte, Nat.reduceEqDiff]
          rw [(mvS_x _ _ _).2, inB_1 _ _ _ _ _ 11 (by decide)]; exact c5
        have E4 : (endS (mvS (inB S w (r i) spot mk) (r i) tn) R (r i)).2 4 (r i) = (i : Int) := by
          rw [endS_2]; simp only [↓reduceIte, Nat.reduceEqDiff]
          rw [mvS_1, inB_1 _ _ _ _ _ 11 (by decide)]; exact c5
        have E5 : (endS (mvS (inB S w (r i) spot mk) (r i) tn) R (r i)).2 5 (r i) = 1 := by
          rw [endS_2]; simp only [↓reduceIte, Nat.reduceEqDiff]
          rw [mvS_a _ _ _ _ 5 (by decide), inB_2, inA_2]; simp
        have E6 : (endS (mvS (inB S w (r i) spot mk) (r i) tn) R (r i)).2 6 (r i) = S.1 16 + (p (r i) : Int) := by
          rw [endS_2]; simp only [↓reduceIte]
          rw [mvS_1, inB_1 _ _ _ _ _ 16 (by decide), p3]
        have E7 : (endS (mvS (inB S w (r i) spot mk) (r i) tn) R (r i)).2 7 (r i) = (spot : Int) := by
          rw [endS_2]; simp only [↓reduceIte, Nat.reduceEqDiff]
          rw [mvS_a _ _ _ _ 7 (by decide), inB_2, inA_2]; simp
        unfold TH
        rw [E1, E3, E4, E5, E6, E7, x13, x14, x15, x16', x18, x19, x20, x21, p4]
        refine ⟨Or.inl ⟨rfl, by omega⟩, fun q => by split <;> omega, fun q => ⟨by omega, by split <;> omega⟩, fun _ => ⟨rfl, by omega, by omega, rfl, by omega, by omega, by omega, by omega, by omega, rfl⟩, fun _ => ⟨spot, hsp, Or.inr rfl, rfl, by rw [n8, if_pos rfl]⟩, fun q => by omega, fun _ _ => ⟨rfl, by omega, by omega⟩, fun _ _ => ⟨rfl, by omega, by omega⟩, fun _ _ => ⟨by simp, fun j d1 d2 => by omega⟩⟩
      · refine TH_keep (hT t ht) (by omega) ⟨n1 t e 1 (by decide) (by decide), n1 t e 3 (by decide) (by decide), n1 t e 4 (by decide) (by decide), n1 t e 5 (by decide) (by decide), n1 t e 6 (by decide) (by decide), n1 t e 7 (by decide) (by decide)⟩ ⟨n2 t e 13, n2 t e 14, n2 t e 15, n2 t e 16, n2 t e 18, n2 t e 19, n2 t e 20, n2 t e 21⟩ (fun q _ ho _ => ⟨Or.inl ho, ?_⟩) (fun _ _ j d1 d2 => ?_)
        · rw [n8, if_neg (fun z : q = spot => hno (by rw [← z]; exact ho))]
        · have : j = i := by omega
          subst this
          exact fun q => e q.symm
    · intro q hq ho
      by_cases hqs : q = spot
      · subst hqs
        exact ⟨r i, x16, by rw [n8, if_pos rfl], x13, x18⟩
      · have ho : occ q := by rcases ho with z | z; exact z; exact absurd z hqs
        obtain ⟨t, d1, d2, d3, d4⟩ := hP q hq ho
        have e : t ≠ r i := fun z => by rw [z] at d3; omega
        exact ⟨t, d1, by rw [n8, if_neg hqs]; exact d2, (n2 t e 13).trans d3, (n2 t e 18).trans d4⟩
  · rw [endS_1, if_neg (by decide), mvS_1, inB_1 _ _ _ _ _ 17 (by decide)]
  · rw [inM_1, if_neg (by decide)]
  · rw [inM_1, if_neg (by decide)]
  · exact ⟨fun j hj => by rw [inM_1, if_neg (by omega)], fun a t ha => inM_o _ _ _ _ _ _ _ _ ha⟩
