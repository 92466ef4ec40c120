/-! serve -/
def FV (M M' : St) : Prop := (∀ j, j < 11 → j ≠ 3 → j ≠ 4 → j ≠ 5 → M'.1 j = M.1 j) ∧ (∀ a t, a ≤ 12 → a ≠ 6 → a ≠ 7 → M'.2 a t = M.2 a t)
theorem FV_tr {A B C : St} (h : FV A B) (g : FV B C) : FV A C := ⟨fun j a b c d => (g.1 j a b c d).trans (h.1 j a b c d), fun a t x y z => (g.2 a t x y z).trans (h.2 a t x y z)⟩
theorem FV_of {A B : St} (h : FR A B) : FV A B := ⟨fun j a _ _ _ => h.1 j a, fun a t x _ _ => h.2 a t x⟩
theorem RR_fv {R M M' : St} {n : Nat} {r p : Nat → Nat} (h : RR R M n r p) (g : FV M M') : RR R M' n r p := by
  obtain ⟨a, b, c, d, e⟩ := h
  refine ⟨a, (g.1 2 (by decide) (by decide) (by decide) (by decide)).trans b, c, fun i hi => ?_, fun t ht => ?_⟩
  · obtain ⟨x, y, z⟩ := d i hi
    exact ⟨x, y, (g.2 1 i (by decide) (by decide) (by decide)).trans z⟩
  · obtain ⟨x, y, z, v⟩ := e t ht
    exact ⟨x, y, z, (g.2 0 t (by decide) (by decide) (by decide)).trans v⟩
def FJ (J J' : St) : Prop := (∀ j, j ≠ 9 → j ≠ 10 → j ≠ 11 → J'.1 j = J.1 j) ∧ (∀ a, a ≠ 6 → a ≠ 7 → J'.2 a = J.2 a)
theorem FJ_tr {A B C : St} (h : FJ A B) (g : FJ B C) : FJ A C := ⟨fun j a b c => (g.1 j a b c).trans (h.1 j a b c), fun a x y => (g.2 a x y).trans (h.2 a x y)⟩
theorem ser_loop {R V T : St} {n : Nat} {r p : Nat → Nat} {w k : Nat} : ∀ (d : Nat) (J U M : St) (s ly f f2 : Nat), SH U R M n r p w k s ly (fun q => q < ly) → AT U R n r p w k s → JV J r p s → (∀ i, i < s → M.2 6 i = J.2 6 i ∧ M.2 7 i = J.2 7 i) → s + d = n → d < f → d < f2 → ∃ (J' U' M' : St), fX3_serve_l37 f (s : Int) (J, R, U, V, T) = some (J'.1 9, (J', R, U', V, T)) ∧ fX4_serve_l33 f2 (w : Int) (k : Int) (J.1 9) (s : Int) M = some (J'.1 9, M') ∧ J'.1 11 = 1 ∧ JV J' r p n ∧ AT U' R n r p w k n ∧ (∀ i, i < n → M'.2 6 i = J'.2 6 i ∧ M'.2 7 i = J'.2 7 i) ∧ M'.1 3 = 1 ∧ M'.1 4 = (w : Int) ∧ M'.1 5 = (k : Int) ∧ FV M M' ∧ FJ J J' := by
  intro d
  induction d with
  | zero =>
    intro J U M s ly f f2 h hA hJ hE hs hf hf2
    obtain ⟨f', rfl⟩ : ∃ f', f = f' + 1 := ⟨f - 1, by omega⟩
    obtain ⟨f2', rfl⟩ : ∃ f', f2 = f' + 1 := ⟨f2 - 1, by omega⟩
    have hsn : s = n := by omega
    subst hsn
    refine ⟨setI J 11 1, U, setI (setI (setI M 3 1) 4 (w : Int)) 5 (k : Int), ?_, ?_, rfl, hJ, hA, hE, rfl, rfl, rfl, ⟨fun j _ a b c => by simp only [sI1, if_neg a, if_neg b, if_neg c], fun _ _ _ _ _ => rfl⟩, ⟨fun j _ _ a => by simp only [sI1, if_neg a], fun _ _ _ => rfl⟩⟩
    · have e : wr (R.1 4) ≤ wr (s : Int) := by rw [h.1.1]; exact Int.le_refl _
      rw [show fX3_serve_l37 (f' + 1) (s : Int) (J, R, U, V, T) = (if wr (R.1 4) ≤ wr (s : Int) then fX3_serve_j125 (J, R, U, V, T) else _) from rfl, if_pos e]
      unfold fX3_serve_j125
      rw [cb_1, nm_q]
    · have e : wr (M.1 2) ≤ wr (s : Int) := by rw [h.1.2.1]; exact Int.le_refl _
      unfold fX4_serve_l33
      rw [if_pos e]
      unfold fX4_serve_j85
      rw [cb_1, nm_q, nm_q, nm_q]
      rfl
  | succ d ih =>
    intro J U M s ly f f2 h hA hJ hE hs hf hf2
    obtain ⟨f', rfl⟩ : ∃ f', f = f' + 1 := ⟨f - 1, by omega⟩
    obtain ⟨f2', rfl⟩ : ∃ f', f2 = f' + 1 := ⟨f2 - 1, by omega⟩
    have hRR := h.1
    have hn3 := hRR.2.2.1
    have hsn : s < n := by omega
    obtain ⟨hx, hx2, -⟩ := hRR.2.2.2.1 s hsn
    obtain ⟨-, -, hp, -⟩ := hRR.2.2.2.2 (r s) hx
    obtain ⟨U1, M1, g, ly', s1, s2, s3, s4, s5, s6, s7, s8, s9⟩ := step_rel h hsn
    obtain ⟨U1', -, -, g', q1, q2, -⟩ := at_step hRR hA hsn
    rw [s1] at q1
    have hU : U1 = U1' := congrArg (fun z => z.2.1) (Option.some.inj q1)
    subst hU
    rw [← s6, ← s5] at s7
    have eM2 : ∀ a, a ≠ 6 → a ≠ 7 → (setA (setA M1 6 s (M1.1 27)) 7 s (M1.1 28)).2 a = M1.2 a := fun a x y => funext fun t => by simp only [sA2, if_neg x, if_neg y]
    obtain ⟨J', U', M', t1, t2, t3, t4, t5, t6, t7, t8, t9, t10, t11⟩ := ih (jN J s g (U1.1 17) (p (r s) : Int)) U1 (setA (setA M1 6 s (M1.1 27)) 7 s (M1.1 28)) (s + 1) ly' f' f2' (SH_arr s3 rfl eM2) q2 (jN_v hJ s7 s8) (fun i hi => by
      rw [jN_2 _ _ _ _ _ s7, jN_2 _ _ _ _ _ s7]
      simp only [sA2, ↓reduceIte, Nat.reduceEqDiff]
      by_cases z : i = s
      · subst z
        simp only [↓reduceIte]
        exact ⟨s5.symm, s4⟩
      · simp only [if_neg z]
        rw [s9.2 6 i (by decide), s9.2 7 i (by decide)]
        exact hE i (by omega)) (by omega) (by omega) (by omega)
    refine ⟨J', U', M', ?_, ?_, t3, t4, t5, t6, t7, t8, t9, ?_, ?_⟩
    · rw [j_serve1 hRR.1 hn3 hsn hx hx2 hp s1 s7]
      exact t1
    · have e : ¬ wr (M.1 2) ≤ wr (s : Int) := by rw [hRR.2.1, wr_nat (by omega), wr_nat (by omega)]; omega
      have e9 : (jN J s g (U1.1 17) (p (r s) : Int)).1 9 = J.1 9 + (1 - M1.1 27) := by rw [jN_1 _ _ _ _ _ s7, if_pos rfl, s5]
      rw [e9] at t2
      unfold fX4_serve_l33
      rw [if_neg e, s2, clv_s, bd_n (show s < 300 by omega), nm_q, bd_n (show s < 300 by omega), nm_q, nm_q, nm_q, up1, Int.toNat_natCast]
      exact t2
    · refine FV_tr (FV_of s9) (FV_tr (B := setA (setA M1 6 s (M1.1 27)) 7 s (M1.1 28)) ⟨fun _ _ _ _ _ => rfl, fun a t _ x y => ?_⟩ t10)
      exact congrFun (eM2 a x y) t
    · refine FJ_tr ⟨fun j x y z => ?_, fun a x y => funext fun t => ?_⟩ t11
      · rw [jN_1 _ _ _ _ _ s7, if_neg x, if_neg y]
      · rw [jN_2 _ _ _ _ _ s7, if_neg x, if_neg y]
