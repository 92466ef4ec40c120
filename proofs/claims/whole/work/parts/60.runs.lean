/-! whole runs -/
/-- the model serves the first s askings -/
noncomputable def mser (Z : St) : Nat → Option St
  | 0 => some Z
  | s + 1 => clv (mser Z s) (fun u => u) fun Y => fX4_serveOne Y (s : Int)
/-- the judge's shelf U stands behind s askings, whatever model one takes -/
def AT (U R : St) (n : Nat) (r p : Nat → Nat) (w k s : Nat) : Prop := ∀ M, RR R M n r p → ∃ (M' : St) (ly : Nat), mser (bgM M w k) s = some M' ∧ SH U R M' n r p w k s ly (fun q => q < ly) ∧ FR M M'
theorem at_beg {S R : St} {n : Nat} {r p : Nat → Nat} {w k : Nat} (h8 : w ≤ 8) (hk : 1 ≤ k ∧ k ≤ 8) : ∀ M, RR R M n r p → AT (bgS S w k) (bgR R r n w) n r p w k 0 := by
  intro _ _ M hM
  have hRW := bgR_w R r n w
  have hM0 : RR R M n r p := RR_row hM ⟨hRW.1.symm, fun a h2 h3 => (hRW.2 a h2 h3).symm⟩
  obtain ⟨h1, h2⟩ := beg_rel (S := S) hM0 h8 hk
  exact ⟨bgM M w k, 0, rfl, h1, h2⟩
theorem at_step {U R : St} {n : Nat} {r p : Nat → Nat} {w k s : Nat} {M : St} (hM : RR R M n r p) (h : AT U R n r p w k s) (hs : s < n) : ∃ (U' M' M2 : St) (g : Int), fX2_step (U, R) = some (g, (U', R)) ∧ AT U' R n r p w k (s + 1) ∧ mser (bgM M w k) s = some M' ∧ fX4_serveOne M' (s : Int) = some M2 ∧ M2.1 28 = g ∧ M2.1 27 = U'.1 17 ∧ (U'.1 17 = 0 ∨ U'.1 17 = 1) ∧ (-1 ≤ g ∧ g < 16) ∧ FR M M' ∧ FR M' M2 := by
  obtain ⟨M', ly, e1, e2, e3⟩ := h M hM
  obtain ⟨U', M2, g, ly', s1, s2, s3, s4, s5, s6, s7, s8, s9⟩ := step_rel e2 hs
  refine ⟨U', M', M2, g, s1, ?_, e1, s2, s4, s5.symm, by rw [s5, s6]; exact s7, s8, e3, s9⟩
  intro N hN
  obtain ⟨N', lz, d1, d2, d3⟩ := h N hN
  obtain ⟨V', N2, g', lz', t1, t2, t3, t4, t5, t6, t7, t8, t9⟩ := step_rel d2 hs
  rw [s1] at t1
  have ht : U' = V' := by
    have := Option.some.inj t1
    exact congrArg (fun z => z.2.1) this
  subst ht
  refine ⟨N2, lz', ?_, t3, FR_tr d3 t9⟩
  unfold mser
  rw [d1, clv_s]
  exact t2
theorem AT_row {U R R' : St} {n : Nat} {r p : Nat → Nat} {w k s : Nat} (h : AT U R n r p w k s) (g : RW R R') (hx : w = 8 → NX R' n r) : AT U R' n r p w k s := by
  intro M hM
  obtain ⟨M', ly, e1, e2, e3⟩ := h M (RR_row hM ⟨g.1.symm, fun a x y => (g.2 a x y).symm⟩)
  refine ⟨M', ly, e1, ?_, e3⟩
  obtain ⟨a1, a2, a3, a4, a5, a6, a7, a8⟩ := e2
  exact ⟨RR_row a1 g, a2, a3, a4, a5, a6, a7, hx⟩
theorem AT_b {U R M : St} {n : Nat} {r p : Nat → Nat} {w k s : Nat} (h : AT U R n r p w k s) (hM : RR R M n r p) : (w ≤ 8 ∧ 1 ≤ k ∧ k ≤ 8 ∧ s ≤ n) ∧ U.1 9 = (w : Int) ∧ U.1 10 = (k : Int) ∧ U.1 11 = (s : Int) ∧ (w = 8 → NX R n r) := by
  obtain ⟨M', ly, e1, e2, e3⟩ := h M hM
  obtain ⟨a1, a2, a3, a4, a5, a6, a7, a8⟩ := e2
  exact ⟨⟨a2.1, a2.2.1, a2.2.2.1, a2.2.2.2.1⟩, a3.1, a3.2.2.1, a3.2.2.2.2.1, a8⟩
/-- stand behind the asking i -/
theorem sb_loop {R M : St} {n : Nat} {r p : Nat → Nat} {w k i : Nat} (hM : RR R M n r p) (hi : i < n) : ∀ (d : Nat) (U : St) (s f : Nat), AT U R n r p w k s → s + d = i + 1 → d < f → ∃ U', fX2_standBehind_l27 f (i : Int) (s : Int) (U, R) = some (U', R) ∧ AT U' R n r p w k (i + 1) := by
  have hn3 := hM.2.2.1
  intro d
  induction d with
  | zero =>
    intro U s f h hs hf
    obtain ⟨f', rfl⟩ : ∃ f', f = f' + 1 := ⟨f - 1, by omega⟩
    have e : wr (i : Int) < wr (s : Int) := by rw [wr_nat (by omega), wr_nat (by omega)]; omega
    have hs' : s = i + 1 := by omega
    subst hs'
    refine ⟨U, ?_, h⟩
    unfold fX2_standBehind_l27
    rw [if_pos e]
  | succ d ih =>
    intro U s f h hs hf
    obtain ⟨f', rfl⟩ : ∃ f', f = f' + 1 := ⟨f - 1, by omega⟩
    have e : ¬ wr (i : Int) < wr (s : Int) := by rw [wr_nat (by omega), wr_nat (by omega)]; omega
    obtain ⟨U1, M', M2, g, s1, s2, -⟩ := at_step hM h (by omega)
    obtain ⟨U', t1, t2⟩ := ih U1 (s + 1) f' s2 (by omega) (by omega)
    refine ⟨U', ?_, t2⟩
    unfold fX2_standBehind_l27
    rw [if_neg e, s1, cls_s, nm_q, up1]
    exact t1
theorem c_behind {U R M : St} {n : Nat} {r p : Nat → Nat} {w k s i : Nat} (hM : RR R M n r p) (h : AT U R n r p w k s) (hi : i < n) : ∃ U' R', fX2_standBehind (U, R) (i : Int) = some (U', R') ∧ AT U' R' n r p w k (i + 1) ∧ RW R R' := by
  have hn3 := hM.2.2.1
  obtain ⟨⟨h8, hk1, hk8, hsn⟩, u9, u10, u11, hx⟩ := AT_b h hM
  unfold fX2_standBehind
  by_cases q : s ≤ i + 1
  · have e : wr (U.1 11) ≤ wr ((i : Int) + 1) := by rw [u11, wr_nat (by omega), show (i : Int) + 1 = ((i + 1 : Nat) : Int) by omega, wr_nat (by omega)]; omega
    obtain ⟨U', t1, t2⟩ := sb_loop hM hi (i + 1 - s) U s FU h (by omega) (FU_gt (by omega))
    refine ⟨U', R, ?_, t2, RW_rf R⟩
    rw [if_pos e]
    unfold fX2_standBehind_j22
    rw [nm_q, u11]
    exact t1
  · have e : ¬ wr (U.1 11) ≤ wr ((i : Int) + 1) := by rw [u11, wr_nat (by omega), show (i : Int) + 1 = ((i + 1 : Nat) : Int) by omega, wr_nat (by omega)]; omega
    have hRW := bgR_w R r n w
    have hb := at_beg (S := U) (R := R) (p := p) (r := r) (n := n) (w := w) (k := k) h8 ⟨hk1, hk8⟩ M hM
    obtain ⟨U', t1, t2⟩ := sb_loop (RR_row hM hRW) hi (i + 1) _ 0 FU hb (by omega) (FU_gt (by omega))
    refine ⟨U', bgR R r n w, ?_, t2, hRW⟩
    rw [if_neg e, u9, u10, c_begin hM h8, clv_s]
    unfold fX2_standBehind_j22
    rw [nm_q]
    exact t1
/-- the model's side of the same -/
theorem m_serveTo_l {M : St} {n i : Nat} {w k : Nat} (hi : i < n) (hn3 : n ≤ 300) {M' : St} (h : mser (bgM M w k) (i + 1) = some M') : fX4_serveTo M (w : Int) (k : Int) (i : Int) = some M' := by
  have key : ∀ (d s f : Nat) (Y : St), mser (bgM M w k) s = some Y → s + d = i + 1 → d < f → fX4_serveTo_l9 f (i : Int) (s : Int) Y = some M' := by
    intro d
    induction d with
    | zero =>
      intro s f Y hY hs hf
      obtain ⟨f', rfl⟩ : ∃ f', f = f' + 1 := ⟨f - 1, by omega⟩
      have e : wr (i : Int) < wr (s : Int) := by rw [wr_nat (by omega), wr_nat (by omega)]; omega
      have hs' : s = i + 1 := by omega
      subst hs'
      rw [hY] at h
      unfold fX4_serveTo_l9
      rw [if_pos e]
      exact h
    | succ d ih =>
      intro s f Y hY hs hf
      obtain ⟨f', rfl⟩ : ∃ f', f = f' + 1 := ⟨f - 1, by omega⟩
      have e : ¬ wr (i : Int) < wr (s : Int) := by rw [wr_nat (by omega), wr_nat (by omega)]; omega
      have hsome : ∃ Y2, fX4_serveOne Y (s : Int) = some Y2 := by
        cases hz : fX4_serveOne Y (s : Int) with
        | some Y2 => exact ⟨Y2, rfl⟩
        | none =>
          exfalso
          have hnone : ∀ d', mser (bgM M w k) (s + 1 + d') = none := by
            intro d'
            induction d' with
            | zero => show mser (bgM M w k) (s + 1) = none; unfold mser; rw [hY, clv_s]; exact hz
            | succ d' ih' => show mser (bgM M w k) ((s + 1 + d') + 1) = none; unfold mser; rw [ih']; rfl
          have := hnone d
          rw [show s + 1 + d = i + 1 by omega, h] at this
          cases this
      obtain ⟨Y2, hY2⟩ := hsome
      unfold fX4_serveTo_l9
      rw [if_neg e, hY2, clv_s, nm_q, up1]
      refine ih (s + 1) f' Y2 ?_ (by omega) (by omega)
      unfold mser
      rw [hY, clv_s]
      exact hY2
  unfold fX4_serveTo
  rw [m_begin, clv_s, nm_q]
  exact key (i + 1) 0 FU _ rfl (by omega) (FU_gt (by omega))
