/-! a run begins -/
def nv (r : Nat → Nat) (n x j : Nat) : Int := if nx r n x j < n then ((nx r n x j : Nat) : Int) else 300
def fnS (R : St) (r : Nat → Nat) (n v : Nat) : St := (R.1, fun a x => if a = 2 then (if v ≤ x ∧ x < n then nv r n (r x) (x + 1) else R.2 2 x) else if a = 3 then (if x < 16 then nv r n x v else R.2 3 x) else R.2 a x)
theorem nx_down {r : Nat → Nat} {n x j : Nat} (h : j < n) : nx r n x j = if r j = x then j else nx r n x (j + 1) := by
  unfold nx
  have e : n - j = (n - (j + 1)) + 1 := by omega
  rw [e]
  rfl
theorem fn_loop {R : St} {n : Nat} {r : Nat → Nat} (hn : n ≤ 300) (hr : ∀ i, i < n → r i < 16 ∧ R.2 0 i = (r i : Int)) : ∀ j f, j ≤ n → j < f → fX1_findNext_l17 f ((j : Int) - 1) (fnS R r n j) = some (fnS R r n 0) := by
  intro j
  induction j with
  | zero =>
    intro f _ hf
    obtain ⟨f', rfl⟩ : ∃ f', f = f' + 1 := ⟨f - 1, by omega⟩
    have e : wr (((0 : Nat) : Int) - 1) < 0 := by rw [wr_id (by omega)]; omega
    unfold fX1_findNext_l17
    rw [if_pos e]
  | succ j ih =>
    intro f hj hf
    obtain ⟨f', rfl⟩ : ∃ f', f = f' + 1 := ⟨f - 1, by omega⟩
    obtain ⟨h1, h2⟩ := hr j (by omega)
    have e0 : ((j + 1 : Nat) : Int) - 1 = (j : Int) := by omega
    rw [e0]
    have e : ¬ wr (j : Int) < 0 := by rw [wr_nat (by omega)]; omega
    have y0 : ∀ v, (fnS R r n v).2 0 j = (r j : Int) := fun v => h2
    have y3 : (fnS R r n (j + 1)).2 3 (r j) = nv r n (r j) (j + 1) := by
      show (if r j < 16 then nv r n (r j) (j + 1) else R.2 3 (r j)) = _
      rw [if_pos h1]
    have es : setA (setA (fnS R r n (j + 1)) 2 j (nv r n (r j) (j + 1))) 3 (r j) (j : Int) = fnS R r n j := by
      refine st_ext (fun _ => rfl) (fun a x => ?_)
      simp only [sA2]
      by_cases a3 : a = 3
      · subst a3
        show (if 3 = 3 then if x = r j then (j : Int) else if 3 = 2 then _ else (if x < 16 then nv r n x (j + 1) else R.2 3 x) else _) = (if x < 16 then nv r n x j else R.2 3 x)
        simp only [↓reduceIte, Nat.reduceEqDiff]
        unfold nv
        by_cases q : x = r j
        · rw [if_pos q, if_pos (by omega), nx_down (show j < n by omega), if_pos q.symm, if_pos (by omega)]
        · have ed : nx r n x j = nx r n x (j + 1) := by rw [nx_down (show j < n by omega), if_neg (show ¬ r j = x from fun z => q z.symm)]
          rw [if_neg q, ed]
      · by_cases a2 : a = 2
        · subst a2
          show (if 2 = 3 then _ else if 2 = 2 then if x = j then _ else (if j + 1 ≤ x ∧ x < n then nv r n (r x) (x + 1) else R.2 2 x) else _) = (if j ≤ x ∧ x < n then nv r n (r x) (x + 1) else R.2 2 x)
          simp only [↓reduceIte, Nat.reduceEqDiff]
          by_cases q : x = j
          · subst q; rw [if_pos rfl, if_pos (by omega)]
          · rw [if_neg q]
            by_cases z : j ≤ x ∧ x < n
            · rw [if_pos z, if_pos (by omega)]
            · rw [if_neg z, if_neg (by omega)]
        · rw [if_neg a3, if_neg a2]
          show (if a = 2 then _ else if a = 3 then _ else R.2 a x) = (if a = 2 then _ else if a = 3 then _ else R.2 a x)
          rw [if_neg a2, if_neg a3, if_neg a2, if_neg a3]
    have y0' : ∀ z, (setA (fnS R r n (j + 1)) 2 j z).2 0 j = (r j : Int) := fun z => by simp only [sA2, Nat.reduceEqDiff, ↓reduceIte]; exact h2
    unfold fX1_findNext_l17
    rw [if_neg e]
    simp only [bd_n (show j < 300 by omega), Int.toNat_natCast, y0, y0', bd_n h1, y3, nm, es]
    exact ih f' (by omega) (by omega)
theorem fn_all {R : St} {n : Nat} {r : Nat → Nat} (hR4 : R.1 4 = (n : Int)) (hn : n ≤ 300) (hr : ∀ i, i < n → r i < 16 ∧ R.2 0 i = (r i : Int)) : fX1_findNext R = some (fnS R r n 0) := by
  have e : setR R 3 (fun j => if j < 16 then 300 else R.2 3 j) = fnS R r n n := by
    refine st_ext (fun _ => rfl) (fun a x => ?_)
    simp only [sR2]
    have en : ∀ x, nv r n x n = 300 := fun x => by
      unfold nv
      rw [if_neg]
      have := (nx_p r n x n (Nat.le_refl _)).1
      omega
    by_cases a3 : a = 3
    · subst a3
      show (if 3 = 3 then (if x < 16 then 300 else R.2 3 x) else _) = (if x < 16 then nv r n x n else R.2 3 x)
      rw [if_pos rfl, en]
    · rw [if_neg a3]
      show _ = (if a = 2 then (if n ≤ x ∧ x < n then _ else R.2 2 x) else if a = 3 then _ else R.2 a x)
      by_cases a2 : a = 2
      · subst a2; rw [if_pos rfl, if_neg (by omega)]
      · rw [if_neg a2, if_neg a3]
  unfold fX1_findNext
  rw [e, nm_q]
  have e4 : (fnS R r n n).1 4 = (n : Int) := hR4
  rw [e4, nm_q]
  exact fn_loop hn hr n FU (Nat.le_refl _) (FU_gt (by omega))
/-- rows that read alike -/
def RW (R R' : St) : Prop := R'.1 = R.1 ∧ (∀ a, a ≠ 2 → a ≠ 3 → R'.2 a = R.2 a)
theorem RW_rf (R : St) : RW R R := ⟨rfl, fun _ _ _ => rfl⟩
theorem RW_tr {A B C : St} (h : RW A B) (g : RW B C) : RW A C := ⟨g.1.trans h.1, fun a x y => (g.2 a x y).trans (h.2 a x y)⟩
theorem RR_row {R R' M : St} {n : Nat} {r p : Nat → Nat} (h : RR R M n r p) (g : RW R R') : RR R' M n r p := by
  unfold RR at h ⊢
  rw [g.1, g.2 0 (by decide) (by decide), g.2 1 (by decide) (by decide)]
  exact h
def bgS (S : St) (w k : Int) : St := setI (setI (setI (setI (setI (setI (setR (setR (setI (setI S 9 w) 10 k) 1 (fun j => if j < 16 then 0 else S.2 1 j)) 2 (fun j => if j < 5 then 0 else S.2 2 j)) 11 0) 12 0) 13 0) 14 0) 15 0) 16 0
def bgR (R : St) (r : Nat → Nat) (n w : Nat) : St := if w = 8 then fnS R r n 0 else R
theorem bgR_w (R : St) (r : Nat → Nat) (n w : Nat) : RW R (bgR R r n w) := by
  unfold bgR
  split
  · exact ⟨rfl, fun a h2 h3 => funext fun x => by
      show (if a = 2 then _ else if a = 3 then _ else R.2 a x) = _
      rw [if_neg h2, if_neg h3]⟩
  · exact RW_rf R
theorem bgR_n {R : St} {r : Nat → Nat} {n w : Nat} (h : w = 8 ∨ NX R n r) : NX (bgR R r n w) n r := by
  unfold bgR
  split
  · intro i hi
    show (if 0 ≤ i ∧ i < n then nv r n (r i) (i + 1) else R.2 2 i) = _
    rw [if_pos ⟨Nat.zero_le _, hi⟩]
    rfl
  · rcases h with q | q
    · contradiction
    · exact q
theorem c_begin {S R M : St} {n : Nat} {r p : Nat → Nat} {w k : Nat} (h : RR R M n r p) (h8 : w ≤ 8) : fX2_begin (S, R) (w : Int) (k : Int) = some (bgS S w k, bgR R r n w) := by
  have hf := fn_all h.1 h.2.2.1 (fun i hi => ⟨(h.2.2.2.1 i hi).1, (h.2.2.2.1 i hi).2.1⟩)
  have e : fX2_begin (S, R) (w : Int) (k : Int) = if wr ((bgS S w k).1 9) = wr 8 then clv (fX1_findNext R) (fun u => (bgS S w k, u)) (fun Y => some Y) else some (bgS S w k, R) := rfl
  have e9 : (bgS S w k).1 9 = (w : Int) := by simp [bgS, sI1, sR1]
  rw [e, e9, wr_nat (show w < 2147483648 by omega), wl_8]
  unfold bgR
  by_cases q : w = 8
  · rw [if_pos (by omega), if_pos q, hf, clv_s]
  · rw [if_neg (by omega), if_neg q]
theorem beg_rel {S R M : St} {n : Nat} {r p : Nat → Nat} {w k : Nat} (h : RR R M n r p) (h8 : w ≤ 8) (hk : 1 ≤ k ∧ k ≤ 8) : SH (bgS S w k) (bgR R r n w) (bgM M w k) n r p w k 0 0 (fun q => q < 0) ∧ FR M (bgM M w k) := by
  have hF : FR M (bgM M w k) := by
    constructor
    · intro j hj
      show (setI (setI (setI (setI (setI (setI (setI M 11 w) 12 k) 22 0) 23 0) 24 0) 25 0) 26 0).1 j = _
      simp only [sI1, if_neg (show ¬ j = 11 by omega), if_neg (show ¬ j = 12 by omega), if_neg (show ¬ j = 22 by omega), if_neg (show ¬ j = 23 by omega), if_neg (show ¬ j = 24 by omega), if_neg (show ¬ j = 25 by omega), if_neg (show ¬ j = 26 by omega)]
    · intro a t ha
      show (if t < 16 then (if a = 13 ∨ a = 16 ∨ a = 17 ∨ a = 19 ∨ a = 21 then 0 else if a = 18 then -1 else M.2 a t) else M.2 a t) = _
      rw [if_neg (show ¬ (a = 13 ∨ a = 16 ∨ a = 17 ∨ a = 19 ∨ a = 21) by omega), if_neg (show ¬ a = 18 by omega), ite_self]
  have m2 : ∀ a t, t < 16 → (bgM M w k).2 a t = (if a = 13 ∨ a = 16 ∨ a = 17 ∨ a = 19 ∨ a = 21 then 0 else if a = 18 then -1 else M.2 a t) := fun a t ht => by
    show (if t < 16 then _ else M.2 a t) = _
    rw [if_pos ht]; rfl
  have s1 : ∀ t, t < 16 → (bgS S w k).2 1 t = 0 := fun t ht => by simp [bgS, sI2, sR2, ht]
  have s2 : ∀ j, j < 5 → (bgS S w k).2 2 j = 0 := fun t ht => by simp [bgS, sI2, sR2, ht]
  refine ⟨⟨RR_keep (RR_row h (bgR_w R r n w)) hF, ⟨h8, hk.1, hk.2, Nat.zero_le _, Nat.zero_le _⟩, ?_, ?_, ?_, ?_, ?_, ?_⟩, hF⟩
  · have z : ∀ j, j = 1 ∨ j = 2 ∨ j = 3 ∨ j = 4 → (bgS S w k).2 2 j = 0 := fun j hj => s2 j (by omega)
    unfold SC
    rw [z 1 (by omega), z 2 (by omega), z 3 (by omega), z 4 (by omega)]
    exact ⟨rfl, rfl, rfl, rfl, rfl, rfl, by omega, rfl, rfl, Int.le_refl _, by show (0 : Int) < _; omega, rfl, Int.le_refl _, by show (0 : Int) ≤ _; omega, rfl, Int.le_refl _, by show (0 : Int) ≤ _; omega, by omega, by omega⟩
  · refine ⟨0, by decide, rfl, fun _ t ht => Or.inr ⟨by simp, ?_⟩, fun _ t ht => ?_⟩ <;> rw [m2 17 t ht] <;> rfl
  · intro j h1 h4
    rw [s2 j (by omega)]
    have e : cn (fun t => (bgS S w k).2 1 t = (j : Int)) 16 = 0 := by
      have hp := cn_pos (c := fun t => (bgS S w k).2 1 t = (j : Int)) (n := 16)
      by_cases q : 0 < cn (fun t => (bgS S w k).2 1 t = (j : Int)) 16
      · obtain ⟨t, ht, hz⟩ := hp.mp q
        rw [s1 t ht] at hz
        omega
      · omega
    rw [e]; rfl
  · intro t ht
    have l0 : (bgM M w k).2 13 t = 0 := by rw [m2 13 t ht]; rfl
    have hnl : ∀ {A : Prop}, (bgM M w k).2 13 t = 1 → A := fun z => by omega
    have p19 : (bgM M w k).2 19 t = 0 := by rw [m2 19 t ht]; rfl
    have e16 : (bgM M w k).2 16 t = 0 := by rw [m2 16 t ht]; rfl
    have e21 : (bgM M w k).2 21 t = 0 := by rw [m2 21 t ht]; rfl
    have e18 : (bgM M w k).2 18 t = -1 := by rw [m2 18 t ht]; rfl
    have hs := s1 t ht
    unfold TH
    rw [hs, p19]
    exact ⟨Or.inr ⟨l0, Or.inl rfl⟩, fun _ => rfl, fun _ => ⟨Or.inl rfl, Or.inl rfl⟩, fun z => hnl z, fun z => hnl z, fun _ => ⟨e16, e21, e18⟩, fun _ z => hnl z, fun _ z => by omega, fun _ z => hnl z⟩
  · intro q hq z; exact absurd z (Nat.not_lt_zero _)
  · intro q; exact bgR_n (Or.inl q)
