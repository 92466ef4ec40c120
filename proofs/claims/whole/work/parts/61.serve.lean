/-! fewest and serve: whole runs on both sides -/
theorem mis_loop {R : St} {n : Nat} {r p : Nat → Nat} {w k : Nat} : ∀ (d : Nat) (U M : St) (s ly f f2 c : Nat), SH U R M n r p w k s ly (fun q => q < ly) → s + d = n → d < f → d < f2 → c ≤ s → ∃ (U' M' : St) (c' : Nat), fX2_missesBy_l11 f (c : Int) (s : Int) (U, R) = some ((c' : Int), (U', R)) ∧ fX4_missesOf_l11 f2 (c : Int) (s : Int) M = some ((c' : Int), M') ∧ FR M M' ∧ c' ≤ n := by
  intro d
  induction d with
  | zero =>
    intro U M s ly f f2 c h hs hf hf2 hc
    obtain ⟨f', rfl⟩ : ∃ f', f = f' + 1 := ⟨f - 1, by omega⟩
    obtain ⟨f2', rfl⟩ : ∃ f', f2 = f' + 1 := ⟨f2 - 1, by omega⟩
    have hsn : s = n := by omega
    subst hsn
    refine ⟨U, M, c, ?_, ?_, FR_rf M, hc⟩
    · unfold fX2_missesBy_l11
      have e : wr (R.1 4) ≤ wr (s : Int) := by rw [h.1.1]; exact Int.le_refl _
      rw [if_pos e]
      rfl
    · unfold fX4_missesOf_l11
      have e : wr (M.1 2) ≤ wr (s : Int) := by rw [h.1.2.1]; exact Int.le_refl _
      rw [if_pos e]
      rfl
  | succ d ih =>
    intro U M s ly f f2 c h hs hf hf2 hc
    have hn3 := h.1.2.2.1
    obtain ⟨f', rfl⟩ : ∃ f', f = f' + 1 := ⟨f - 1, by omega⟩
    obtain ⟨f2', rfl⟩ : ∃ f', f2 = f' + 1 := ⟨f2 - 1, by omega⟩
    obtain ⟨U1, M1, g, ly', s1, s2, s3, s4, s5, s6, s7, s8, s9⟩ := step_rel h (show s < n by omega)
    have e1 : ¬ wr (R.1 4) ≤ wr (s : Int) := by rw [h.1.1, wr_nat (by omega), wr_nat (by omega)]; omega
    have e2 : ¬ wr (M.1 2) ≤ wr (s : Int) := by rw [h.1.2.1, wr_nat (by omega), wr_nat (by omega)]; omega
    rw [← s6] at s7
    rcases s7 with z | z
    · obtain ⟨U', M', c', t1, t2, t3, t4⟩ := ih U1 M1 (s + 1) ly' f' f2' (c + 1) s3 (by omega) (by omega) (by omega) (by omega)
      refine ⟨U', M', c', ?_, ?_, FR_tr s9 t3, t4⟩
      · unfold fX2_missesBy_l11
        rw [if_neg e1, s1, cls_s]
        have e3 : wr (U1.1 17) = 0 := by rw [s5, z]; exact wl_0
        rw [if_pos e3]
        unfold fX2_missesBy_j38
        rw [nm_q, nm_q, up1, up1]
        exact t1
      · unfold fX4_missesOf_l11
        rw [if_neg e2, s2, clv_s, z, nm_q, nm_q, show (1 : Int) - 0 = 1 from rfl, up1, up1]
        exact t2
    · obtain ⟨U', M', c', t1, t2, t3, t4⟩ := ih U1 M1 (s + 1) ly' f' f2' c s3 (by omega) (by omega) (by omega) (by omega)
      refine ⟨U', M', c', ?_, ?_, FR_tr s9 t3, t4⟩
      · unfold fX2_missesBy_l11
        rw [if_neg e1, s1, cls_s]
        have e3 : ¬ wr (U1.1 17) = 0 := by rw [s5, z, wl_1]; decide
        rw [if_neg e3]
        unfold fX2_missesBy_j38
        rw [nm_q, up1]
        exact t1
      · unfold fX4_missesOf_l11
        rw [if_neg e2, s2, clv_s, z, nm_q, nm_q, show (1 : Int) - 1 = 0 from rfl, Int.add_zero, up1]
        exact t2
theorem misses_rel {S R M : St} {n : Nat} {r p : Nat → Nat} {w k : Nat} (h : RR R M n r p) (h8 : w ≤ 8) (hk : 1 ≤ k ∧ k ≤ 8) : ∃ (S' M' : St) (c : Nat), fX2_missesBy (S, R) (w : Int) (k : Int) = some ((c : Int), (S', bgR R r n w)) ∧ fX4_missesOf M (w : Int) (k : Int) = some ((c : Int), M') ∧ FR M M' ∧ c ≤ n := by
  have hn3 := h.2.2.1
  obtain ⟨b1, b2⟩ := beg_rel (S := S) h h8 hk
  obtain ⟨U', M', c', t1, t2, t3, t4⟩ := mis_loop n _ _ 0 0 FU FU 0 b1 (by omega) (FU_gt (by omega)) (FU_gt (by omega)) (Nat.le_refl _)
  refine ⟨U', M', c', ?_, ?_, FR_tr b2 t3, t4⟩
  · unfold fX2_missesBy
    rw [c_begin h h8, clv_s, nm_q, nm_q]
    exact t1
  · unfold fX4_missesOf
    rw [m_begin, clv_s, nm_q, nm_q]
    exact t2
/-- sums -/
def sm (f : Nat → Int) : Nat → Int
  | 0 => 0
  | n + 1 => sm f n + f n
theorem sm_congr {f g : Nat → Int} : ∀ n, (∀ i, i < n → f i = g i) → sm f n = sm g n := by
  intro n
  induction n with
  | zero => intro _; rfl
  | succ n ih => intro h; unfold sm; rw [ih (fun i hi => h i (by omega)), h n (by omega)]
theorem sm_b {f : Nat → Int} {b : Int} : ∀ n, (∀ i, i < n → 0 ≤ f i ∧ f i ≤ b) → 0 ≤ sm f n ∧ sm f n ≤ b * (n : Int) := by
  intro n
  induction n with
  | zero => intro _; exact ⟨Int.le_refl _, by simp [sm]⟩
  | succ n ih =>
    intro h
    have h1 := ih (fun i hi => h i (by omega))
    have h2 := h n (by omega)
    unfold sm
    have e : b * ((n + 1 : Nat) : Int) = b * (n : Int) + b := by rw [Int.natCast_add, Int.mul_add]; simp
    rw [e]
    omega
theorem SH_arr {S R M M' : St} {n : Nat} {r p : Nat → Nat} {w k i ly : Nat} {occ : Nat → Prop} (h : SH S R M n r p w k i ly occ) (h1 : M'.1 = M.1) (h2 : ∀ a, a ≠ 6 → a ≠ 7 → M'.2 a = M.2 a) : SH S R M' n r p w k i ly occ := by
  obtain ⟨hR, hb, hsc, hmk, hC, hT, hP, hN⟩ := h
  have z : ∀ a, a < 6 ∨ 7 < a → M'.2 a = M.2 a := fun a ha => h2 a (by omega) (by omega)
  refine ⟨?_, hb, ?_, ?_, hC, fun t ht => ?_, ?_, hN⟩
  · unfold RR at hR ⊢; rw [h1, z 0 (by omega), z 1 (by omega)]; exact hR
  · unfold SC at hsc ⊢; rw [h1]; exact hsc
  · unfold MK at hmk ⊢; rw [z 17 (by omega), z 13 (by omega)]; exact hmk
  · have := hT t ht
    unfold TH at this ⊢
    rw [z 13 (by omega), z 14 (by omega), z 15 (by omega), z 16 (by omega), z 18 (by omega), z 19 (by omega), z 20 (by omega), z 21 (by omega)]; exact this
  · unfold PL at hP ⊢; rw [z 13 (by omega), z 18 (by omega)]; exact hP
/-- what the judge keeps of the first s askings of a run -/
def JV (J : St) (r p : Nat → Nat) (s : Nat) : Prop := (∀ i, i < s → (J.2 6 i = 0 ∨ J.2 6 i = 1) ∧ -1 ≤ J.2 7 i ∧ J.2 7 i < 16) ∧ J.1 9 = sm (fun i => 1 - J.2 6 i) s ∧ J.1 10 = sm (fun i => if J.2 6 i = 1 then 0 else (p (r i) : Int)) s
def jN (J : St) (s : Nat) (g h : Int) (pr : Int) : St := if h = 0 then setI (setI (setA (setA J 7 s g) 6 s 0) 9 (J.1 9 + 1)) 10 (J.1 10 + pr) else setA (setA J 7 s g) 6 s 1
theorem jN_2 (J : St) (s : Nat) (g h : Int) (pr : Int) (hh : h = 0 ∨ h = 1) (a x : Nat) : (jN J s g h pr).2 a x = if a = 6 then (if x = s then h else J.2 6 x) else if a = 7 then (if x = s then g else J.2 7 x) else J.2 a x := by
  unfold jN
  rcases hh with q | q <;> subst q <;> simp only [↓reduceIte, sI2, sA2, Int.reduceEq] <;> grind
theorem jN_1 (J : St) (s : Nat) (g h : Int) (pr : Int) (hh : h = 0 ∨ h = 1) (j : Nat) : (jN J s g h pr).1 j = if j = 9 then J.1 9 + (1 - h) else if j = 10 then J.1 10 + (if h = 1 then 0 else pr) else J.1 j := by
  unfold jN
  rcases hh with q | q <;> subst q <;> simp only [↓reduceIte, sI1, sA1, Int.reduceEq] <;> grind
theorem jN_v {J : St} {r p : Nat → Nat} {s : Nat} {g h : Int} (hJ : JV J r p s) (hh : h = 0 ∨ h = 1) (hg : -1 ≤ g ∧ g < 16) : JV (jN J s g h (p (r s))) r p (s + 1) := by
  obtain ⟨a1, a2, a3⟩ := hJ
  have e6 : ∀ i, i < s → (jN J s g h (p (r s))).2 6 i = J.2 6 i := fun i hi => by rw [jN_2 _ _ _ _ _ hh, if_pos rfl, if_neg (by omega)]
  have e6s : (jN J s g h (p (r s))).2 6 s = h := by rw [jN_2 _ _ _ _ _ hh, if_pos rfl, if_pos rfl]
  refine ⟨fun i hi => ?_, ?_, ?_⟩
  · by_cases q : i = s
    · subst q
      rw [e6s, jN_2 _ _ _ _ _ hh, if_neg (by decide), if_pos rfl, if_pos rfl]
      exact ⟨hh, hg⟩
    · rw [e6 i (by omega), jN_2 _ _ _ _ _ hh, if_neg (by decide), if_pos rfl, if_neg q]
      exact a1 i (by omega)
  · rw [jN_1 _ _ _ _ _ hh, if_pos rfl]
    show _ = sm _ s + (1 - (jN J s g h (p (r s))).2 6 s)
    rw [e6s, a2]
    rw [sm_congr s (f := fun i => 1 - (jN J s g h (p (r s))).2 6 i) (g := fun i => 1 - J.2 6 i) (fun i hi => by rw [e6 i hi])]
  · rw [jN_1 _ _ _ _ _ hh, if_neg (by decide), if_pos rfl]
    show _ = sm _ s + (if (jN J s g h (p (r s))).2 6 s = 1 then 0 else (p (r s) : Int))
    rw [e6s, a3]
    rw [sm_congr s (f := fun i => if (jN J s g h (p (r s))).2 6 i = 1 then 0 else (p (r i) : Int)) (g := fun i => if J.2 6 i = 1 then 0 else (p (r i) : Int)) (fun i hi => by rw [e6 i hi])]
theorem j_serve1 {J R U V T U' : St} {n : Nat} {s x pr f : Nat} {g : Int} (h4 : R.1 4 = (n : Int)) (hn3 : n ≤ 300) (hs : s < n) (hx : x < 16) (hx2 : R.2 0 s = (x : Int)) (hp : R.2 1 x = (pr : Int)) (h1 : fX2_step (U, R) = some (g, (U', R))) (hh : U'.1 17 = 0 ∨ U'.1 17 = 1) : fX3_serve_l37 (f + 1) (s : Int) (J, R, U, V, T) = fX3_serve_l37 f ((s + 1 : Nat) : Int) (jN J s g (U'.1 17) (pr : Int), R, U', V, T) := by
  have e1 : ¬ wr (R.1 4) ≤ wr (s : Int) := by rw [h4, wr_nat (by omega), wr_nat (by omega)]; omega
  rw [show fX3_serve_l37 (f + 1) (s : Int) (J, R, U, V, T) = (if wr (R.1 4) ≤ wr (s : Int) then fX3_serve_j125 (J, R, U, V, T) else (cls (fX2_step (U, R)) (fun u => (J, u.2, u.1, V, T)) fun r109 Y108 => bd (s : Int) 300 (nm ((setA Y108.1 7 (Int.toNat (s : Int)) r109, Y108.2)) fun Y110 => if wr (Y110.2.2.1.1 17) = 0 then (fX3_serve_j81 (fX3_serve_l37 f) (s : Int) 0 (s : Int) Y110) else (fX3_serve_j81 (fX3_serve_l37 f) (s : Int) 1 (s : Int) Y110)))) from rfl]
  rw [if_neg e1, h1, cls_s, bd_n (show s < 300 by omega), nm_q]
  have epr : fX1_priceAt R (s : Int) = some ((pr : Int), R) := by
    unfold fX1_priceAt
    simp only [bd_n (show s < 300 by omega), Int.toNat_natCast, hx2, bd_n hx, hp]
  rcases hh with z | z
  · have e3 : wr (U'.1 17) = 0 := by rw [z]; exact wl_0
    rw [if_pos e3]
    unfold fX3_serve_j81
    rw [bd_n (show s < 300 by omega), nm_q, if_pos e3, nm_q]
    rw [show fX1_priceAt (setI (setA (setA J 7 (Int.toNat (s : Int)) g) 6 (Int.toNat (s : Int)) 0) 9 ((setA (setA J 7 (Int.toNat (s : Int)) g) 6 (Int.toNat (s : Int)) 0).1 9 + 1), R, U', V, T).2.1 (s : Int) = some ((pr : Int), R) from epr, cls_s, nm_q]
    unfold fX3_serve_j119
    rw [nm_q, up1, Int.toNat_natCast, z]
    rfl
  · have e3 : ¬ wr (U'.1 17) = 0 := by rw [z, wl_1]; decide
    rw [if_neg e3]
    unfold fX3_serve_j81
    rw [bd_n (show s < 300 by omega), nm_q, if_neg e3]
    unfold fX3_serve_j119
    rw [nm_q, up1, Int.toNat_natCast, z]
    rfl
