/-! MARKING and CLOCK -/
theorem rem_nat {a d : Nat} (ha : a < 2147483648) (h0 : 0 < d) (hd : d < 2147483648) : remI (a : Int) (d : Int) = ((a % d : Nat) : Int) := by
  unfold remI
  rw [iz_nat, iz_nat, pk_rem ha h0 hd]
  exact nI_toInt (Nat.lt_of_lt_of_le (Nat.mod_lt _ h0) (by omega))
theorem cn_ext {c c' : Nat → Prop} [DecidablePred c] [DecidablePred c'] {n : Nat} (h : ∀ t, t < n → (c t ↔ c' t)) : cn c n = cn c' n := cn_congr h
theorem ch_2 {S R M : St} {n : Nat} {r p : Nat → Nat} {k i : Nat} (h : SH S R M n r p 2 k i k (fun q => q < k)) : CH S R M n r p 2 k i := by
  obtain ⟨hR, ⟨h8, hk1, hk8, hin, hlyk⟩, hsc, ⟨mk, hmk, hmk2, hmk3, hmk4⟩, hC, hT, hP, hN⟩ := id h
  obtain ⟨c1, c2, c3, c4, c5, c6, c7, c8, c9, c10, c11, c12, c13, c14, c15, c16, c17, c18, c19⟩ := hsc
  have hn3 : i ≤ 300 := Nat.le_trans hin hR.2.2.1
  have hm3 := hmk3 (Or.inl rfl)
  have hnb : ¬ (2 = 5 ∨ 2 = 6) := by decide
  have hcn := sh_cn h
  have hsub := cn_mono (c := fun t => mk.testBit t = true) (c' := fun t => M.2 13 t = 1) (n := 16) (fun t ht q => by rcases hm3 t ht with z | z; exact z.2.2; rw [q] at z; cases z.1)
  -- the judge's scan, with any marks
  have scanC : ∀ (S' : St) (mk' : Nat), S'.1 9 = ((2 : Nat) : Int) → S'.1 12 = (mk' : Int) → mk' < 65536 → S'.2 = S.2 → fX2_firstOf (S', R) 1 = some (if amin (fun t => S.2 1 t = 1 ∧ ¬ (2 = 2 ∧ mk'.testBit t = true)) (fun t u => S.2 4 t < S.2 4 u) 16 < 0 then 0 else amin (fun t => S.2 1 t = 1 ∧ ¬ (2 = 2 ∧ mk'.testBit t = true)) (fun t u => S.2 4 t < S.2 4 u) 16, (S', R)) := by
    intro S' mk' a1 a2 a3 a4
    have hk' : ∀ t, keyV S' R 2 t = S.2 4 t := fun t => by simp only [keyV, Nat.reduceEqDiff, ↓reduceIte, or_self, a4]
    have q := c_firstOf (R := R) (w := 2) (fr := 1) a1 (by decide) a2 a3 (fun t ht => by rw [a4]; exact (TH_r (hT t ht)).1.1) wl_1 (fun z => by omega) (fun t ht hp => by
      rw [hk']
      rw [a4] at hp
      have a := (hT t ht).1
      have := (hT t ht).2.2.2.1 (by omega)
      exact wr_id (by omega)) (fun t => S.2 4 t) (funext (fun t => (hk' t).symm))
    rw [a4] at q
    exact q
  have scanM : ∀ (M' : St), (∀ t, M'.2 13 t = M.2 13 t) → (∀ t, M'.2 15 t = M.2 15 t) → (∀ t, M'.2 19 t = M.2 19 t) → (∀ t, t < 16 → M'.2 17 t = 0 ∨ M'.2 17 t = 1) → fX4_resting M' 0 1 = some (amin (fun t => M.2 13 t ≠ 0 ∧ M'.2 17 t = 0) (fun t u => M.2 15 t < M.2 15 u) 16, M') := by
    intro M' e1 e2 e3 e4
    have q := m_resting (Y := M') (a := 0) (b := 1) wl_0 wl_1 (fun t ht => ⟨by rw [e1]; exact (TH_r (hT t ht)).2.1, by rw [e3]; exact (TH_r (hT t ht)).2.2.1.1, wr_id (by have := e4 t ht; omega)⟩) (fun t ht q => by
      rw [e1] at q
      rw [e2]
      have a := (TH_r (hT t ht)).2.2.2
      have := (hT t ht).2.2.2.1 (by omega)
      exact wr_id (by omega))
    simp only [e1, e2, true_or, true_and, Int.one_ne_zero, false_or] at q
    exact q
  have hM17 : ∀ t, t < 16 → M.2 17 t = 0 ∨ M.2 17 t = 1 := fun t ht => by rcases hm3 t ht with z | z <;> omega
  have hbc := e_bitCount hmk
  have finish : ∀ (Sx M1 : St) (mk' : Nat), SH Sx R M1 n r p 2 k i k (fun q => q < k) → Sx.1 12 = (mk' : Int) → mk' < 65536 → Sx.2 = S.2 → (∀ t, M1.2 13 t = M.2 13 t) → (∀ t, M1.2 15 t = M.2 15 t) → (∀ t, t < 16 → (mk'.testBit t = true ↔ M1.2 17 t ≠ 0)) → (∃ t, t < 16 ∧ M.2 13 t = 1 ∧ M1.2 17 t = 0) → ∃ g : Nat, g < 16 ∧ fX2_firstOf (Sx, R) 1 = some ((g : Int), (Sx, R)) ∧ amin (fun t => M.2 13 t ≠ 0 ∧ M1.2 17 t = 0) (fun t u => M.2 15 t < M.2 15 u) 16 = (g : Int) ∧ M1.2 13 g = 1 ∧ M1.2 17 g = 0 := by
    intro Sx M1 mk' hSx a1 a2 a3 a4 a5 a6 a7
    have q := scanC Sx mk' hSx.2.2.1.1 a1 a2 a3
    have he : amin (fun t => S.2 1 t = 1 ∧ ¬ (2 = 2 ∧ mk'.testBit t = true)) (fun t u => S.2 4 t < S.2 4 u) 16 = amin (fun t => M.2 13 t ≠ 0 ∧ M1.2 17 t = 0) (fun t u => M.2 15 t < M.2 15 u) 16 := amin_congr (n := 16) (fun t ht => by
      have a := (hT t ht).1
      have b := ((hT t ht).2.2.1 hnb).1
      have c := a6 t ht
      constructor
      · rintro ⟨z1, z2⟩
        refine ⟨by omega, Decidable.byContradiction (fun z => z2 ⟨rfl, c.mpr z⟩)⟩
      · rintro ⟨z1, z2⟩
        exact ⟨by omega, fun z => c.mp z.2 z2⟩) (fun t u ht hu z1 z2 => by
      have a := (hT t ht).1
      have b := (hT u hu).1
      have a1 := (hT t ht).2.2.2.1 (by have := z1.1; omega)
      have b1 := (hT u hu).2.2.2.1 (by have := z2.1; omega)
      omega) 16 (Nat.le_refl _)
    rw [he] at q
    obtain ⟨b1, b2, b3, b4⟩ := amin_b (fun t => M.2 13 t ≠ 0 ∧ M1.2 17 t = 0) (fun t u => M.2 15 t < M.2 15 u) 16
    have hpos : 0 ≤ amin (fun t => M.2 13 t ≠ 0 ∧ M1.2 17 t = 0) (fun t u => M.2 15 t < M.2 15 u) 16 := by
      by_cases z : amin (fun t => M.2 13 t ≠ 0 ∧ M1.2 17 t = 0) (fun t u => M.2 15 t < M.2 15 u) 16 < 0
      · obtain ⟨t, ht, h1, h2⟩ := a7
        exact absurd ⟨by omega, h2⟩ (b4 z t ht)
      · omega
    have hg3 := b3 hpos
    generalize amin (fun t => M.2 13 t ≠ 0 ∧ M1.2 17 t = 0) (fun t u => M.2 15 t < M.2 15 u) 16 = v at *
    obtain ⟨g, rfl⟩ : ∃ g : Nat, v = (g : Int) := ⟨v.toNat, by omega⟩
    simp only [Int.toNat_natCast] at hg3
    have hg16 : g < 16 := by omega
    rw [if_neg (by omega)] at q
    exact ⟨g, hg16, q, rfl, by rw [a4]; have := (TH_r (hT g hg16)).2.2.2; omega, hg3.2⟩
  have hr0 := scanM M (fun _ => rfl) (fun _ => rfl) (fun _ => rfl) hM17
  obtain ⟨d1, d2, d3, d4⟩ := amin_b (fun t => M.2 13 t ≠ 0 ∧ M.2 17 t = 0) (fun t u => M.2 15 t < M.2 15 u) 16
  by_cases hA : amin (fun t => M.2 13 t ≠ 0 ∧ M.2 17 t = 0) (fun t u => M.2 15 t < M.2 15 u) 16 < 0
  · -- all are marked
    have hall : ∀ t, t < 16 → M.2 13 t = 1 → mk.testBit t = true := fun t ht q => by
      have z := d4 hA t ht
      rcases hm3 t ht with y | y
      · exact y.1
      · exact absurd ⟨by omega, y.2⟩ z
    have hge : k ≤ cn (fun t => mk.testBit t = true) 16 := by
      have := (cn_mono (c := fun t => M.2 13 t = 1) (c' := fun t => mk.testBit t = true) (n := 16) hall).1
      omega
    have hle := cn_le (fun t => mk.testBit t = true) 16
    have hSH : SH (setI (setI S 12 0) 13 (S.1 13 + 1)) R (setI (clrM M 16) 23 (M.1 23 + 1)) n r p 2 k i k (fun q => q < k) := by
      have g17 : ∀ t, t < 16 → (setI (clrM M 16) 23 (M.1 23 + 1)).2 17 t = 0 := fun t ht => by simp [sI2, clrM, ht]
      have go : ∀ a t, a ≠ 17 → (setI (clrM M 16) 23 (M.1 23 + 1)).2 a t = M.2 a t := fun a t ha => by simp [sI2, clrM, ha]
      have hFR : FR M (setI (clrM M 16) 23 (M.1 23 + 1)) := ⟨fun j hj => by simp only [sI1]; rw [if_neg (by omega)]; rfl, fun a t ha => go a t (by omega)⟩
      refine ⟨RR_keep hR hFR, ⟨h8, hk1, hk8, hin, hlyk⟩, ⟨c1, c2, c3, c4, c5, c6, c7, ?_, c9, c10, c11, c12, c13, c14, c15, c16, c17, c18, c19⟩, ⟨0, by decide, rfl, fun _ t ht => Or.inr ⟨by simp, g17 t ht⟩, fun q => absurd (Or.inl rfl) q⟩, hC, fun t ht => ?_, ?_, hN⟩
      · show M.1 23 + 1 = S.1 13 + 1
        rw [c8]
      · exact TH_keep (hT t ht) (Nat.le_refl _) ⟨rfl, rfl, rfl, rfl, rfl, rfl⟩ ⟨go 13 t (by decide), go 14 t (by decide), go 15 t (by decide), go 16 t (by decide), go 18 t (by decide), go 19 t (by decide), go 20 t (by decide), go 21 t (by decide)⟩ (fun q _ ho _ => ⟨ho, rfl⟩) (fun _ _ j z1 z2 => by omega)
      · intro q hq ho
        obtain ⟨t, e1, e2, e3, e4⟩ := hP q hq ho
        exact ⟨t, e1, e2, (go 13 t (by decide)).trans e3, (go 18 t (by decide)).trans e4⟩
    have go : ∀ a t, a ≠ 17 → (setI (clrM M 16) 23 (M.1 23 + 1)).2 a t = M.2 a t := fun a t ha => by simp [sI2, clrM, ha]
    have g17 : ∀ t, t < 16 → (setI (clrM M 16) 23 (M.1 23 + 1)).2 17 t = 0 := fun t ht => by simp [sI2, clrM, ht]
    obtain ⟨t0, ht0, hl0⟩ := sh_some h
    obtain ⟨g, g1, g2, g3, g4, g5⟩ := finish _ _ 0 hSH rfl (by decide) rfl (fun t => go 13 t (by decide)) (fun t => go 15 t (by decide)) (fun t ht => by rw [g17 t ht]; simp) ⟨t0, ht0, hl0, g17 t0 ht0⟩
    have hr1 := scanM (setI (clrM M 16) 23 (M.1 23 + 1)) (fun t => go 13 t (by decide)) (fun t => go 15 t (by decide)) (fun t => go 19 t (by decide)) (fun t ht => Or.inl (g17 t ht))
    rw [g3] at hr1
    refine ⟨g, _, _, S.1 14, g1, ?_, ?_, hSH, g4, fun _ => g5, ⟨c10, c11⟩, ⟨fun q => by omega, fun _ => c9.symm⟩, fun t => go 13 t (by decide), fun _ => rfl, rfl, rfl, ⟨fun j hj => by simp only [sI1]; rw [if_neg (by omega)]; rfl, fun a t ha => go a t (by omega)⟩⟩
    · have e14 : setI (setI (setI S 12 0) 13 (S.1 13 + 1)) 14 (S.1 14) = setI (setI S 12 0) 13 (S.1 13 + 1) := setI_same (setI (setI S 12 0) 13 (S.1 13 + 1)) 14
      rw [e14]
      have her : fX2_endFullRound (S, R) = some (setI (setI S 12 0) 13 (S.1 13 + 1), R) := by
        simp only [fX2_endFullRound, fX2_endFullRound_j29, hmk2, hbc, clp_s, nm, c3, wr_nat (show k < 2147483648 by omega), wr_nat (show cn (fun t => mk.testBit t = true) 16 < 2147483648 by omega), sI1, Nat.reduceEqDiff, ↓reduceIte]
        rw [if_neg (by omega)]
      simp only [fX2_chooseGoing, c1, show ((2 : Nat) : Int) = 2 from rfl, wl_2, ↓reduceIte, her, clv_s, g2, cls_s]
    · have hu : fX4_unmarked M = some ((g : Int), setI (clrM M 16) 23 (M.1 23 + 1)) := by
        have wA : wr (amin (fun t => M.2 13 t ≠ 0 ∧ M.2 17 t = 0) (fun t u => M.2 15 t < M.2 15 u) 16) = amin (fun t => M.2 13 t ≠ 0 ∧ M.2 17 t = 0) (fun t u => M.2 15 t < M.2 15 u) 16 := wr_id (by omega)
        simp only [fX4_unmarked, hr0, cls_s, nm, wA]
        rw [if_neg (by omega), m_clear]
        simp only [fX4_unmarked_j32, fX4_unmarked_j49, nm]
        have e23 : (clrM M 16).1 23 = M.1 23 := rfl
        rw [e23, hr1]
        simp only [cls_s]
      simp only [fX4_chosen, c2, show ((2 : Nat) : Int) = 2 from rfl, wl_2, hu, cls_s]
      simp
  · -- one isn't
    have hg3 := d3 (by omega)
    have hex : ∃ t, t < 16 ∧ M.2 13 t = 1 ∧ M.2 17 t = 0 := by
      have := (TH_r (hT (amin (fun t => M.2 13 t ≠ 0 ∧ M.2 17 t = 0) (fun t u => M.2 15 t < M.2 15 u) 16).toNat (by omega))).2.2.2
      exact ⟨_, by omega, by omega, hg3.2⟩
    have hlt : cn (fun t => mk.testBit t = true) 16 < k := by
      by_cases z : cn (fun t => mk.testBit t = true) 16 < k
      · exact z
      · obtain ⟨t, e1, e2, e3⟩ := hex
        have := hsub.2 (by omega) t e1 e2
        rcases hm3 t e1 with y | y
        · omega
        · rw [this] at y; cases y.1
    have hbits : ∀ t, t < 16 → (mk.testBit t = true ↔ M.2 17 t ≠ 0) := by
      intro t ht
      rcases hm3 t ht with y | y
      · constructor
        · intro _; omega
        · intro _; exact y.1
      · constructor
        · intro z; rw [z] at y; cases y.1
        · intro z; exact absurd y.2 z
    obtain ⟨g, g1, g2, g3, g4, g5⟩ := finish S M mk h hmk2 hmk rfl (fun _ => rfl) (fun _ => rfl) hbits hex
    rw [g3] at hr0
    refine ⟨g, S, M, S.1 14, g1, ?_, ?_, h, g4, fun _ => g5, ⟨c10, c11⟩, ⟨fun q => by omega, fun _ => c9.symm⟩, fun _ => rfl, fun _ => rfl, rfl, rfl, FR_rf M⟩
    · rw [setI_same]
      have her : fX2_endFullRound (S, R) = some (S, R) := by
        simp only [fX2_endFullRound, fX2_endFullRound_j29, hmk2, hbc, clp_s, c3, wr_nat (show k < 2147483648 by omega), wr_nat (show cn (fun t => mk.testBit t = true) 16 < 2147483648 by omega)]
        rw [if_pos (by omega)]
      simp only [fX2_chooseGoing, c1, show ((2 : Nat) : Int) = 2 from rfl, wl_2, ↓reduceIte, her, clv_s, g2, cls_s]
    · have hu : fX4_unmarked M = some ((g : Int), M) := by
        simp only [fX4_unmarked, fX4_unmarked_j49, hr0, cls_s, nm, wr_s g1]
        rw [if_pos (by omega)]
      simp only [fX4_chosen, c2, show ((2 : Nat) : Int) = 2 from rfl, wl_2, hu, cls_s]
      simp
/-! CLOCK -/
theorem c_handOn {S R : St} {k h : Nat} (hk : S.1 10 = (k : Int)) (hh : S.1 14 = (h : Int)) (hk8 : k ≤ 8) (hlt : h < k) : fX2_moveHandOn (S, R) = some (setI S 14 (((if h + 1 < k then h + 1 else 0) : Nat) : Int), R) := by
  have e : S.1 14 + 1 = ((h + 1 : Nat) : Int) := by omega
  simp only [fX2_moveHandOn, fX2_moveHandOn_j24, nm, hk, e, wr_nat (show k < 2147483648 by omega), wr_nat (show h + 1 < 2147483648 by omega)]
  by_cases q : h + 1 < k
  · rw [if_neg (by omega), if_pos q]
  · rw [if_pos (by omega), if_neg q]; rfl
theorem sh_at {S R M : St} {n : Nat} {r p : Nat → Nat} {w k i : Nat} (h : SH S R M n r p w k i k (fun q => q < k)) {q : Nat} (hq : q < k) : ∃ t : Nat, t < 16 ∧ S.2 8 q = (t : Int) ∧ M.2 13 t = 1 ∧ M.2 18 t = (q : Int) ∧ fX4_atPlace M (q : Int) = some ((t : Int), M) := by
  obtain ⟨t, h1, h2, h3, h4⟩ := h.2.2.2.2.2.2.1 q hq hq
  have hT := h.2.2.2.2.2.1
  have hk8 := h.2.1.2.2.1
  refine ⟨t, h1, h2, h3, h4, m_atPlace (wr_nat (by omega)) (fun u hu => ⟨(TH_r (hT u hu)).2.1, ?_⟩) h1 (fun u hu => ⟨fun z => ?_, fun z => ?_⟩)⟩
  · rcases (TH_r (hT u hu)).2.2.2 with e | e
    · rw [((hT u hu).2.2.2.2.2.1 e).2.2]; exact wl_m1
    · obtain ⟨q2, e1, -, e3, -⟩ := (hT u hu).2.2.2.2.1 e
      rw [e3]; exact wr_nat (by omega)
  · have e := (TH_r (hT u hu)).2.2.2
    obtain ⟨q2, e1, -, e3, e4⟩ := (hT u hu).2.2.2.2.1 (by have := z.1; omega)
    have : q2 = q := by have := z.2; omega
    subst this
    omega
  · subst z
    exact ⟨by omega, h4⟩
theorem clock {n : Nat} {r p : Nat → Nat} {k i : Nat} {R : St} : ∀ (c : Nat) (S M : St) (mk j f1 f2 t : Nat), SH S R M n r p 3 k i k (fun q => q < k) → S.1 12 = (mk : Int) → mk < 65536 → cn (fun t => mk.testBit t = true) 16 = c → c + j ≤ k → c < f1 → c < f2 → S.2 8 (S.1 14).toNat = (t : Int) → ∃ (g : Nat) (Sx M1 : St) (h' : Int), g < 16 ∧ fX2_turnHand_l2 f1 (j : Int) (S, R) = some ((g : Int), (setI Sx 14 h', R)) ∧ fX4_atHand_l9 f2 (t : Int) M = some ((g : Int), M1) ∧ SH Sx R M1 n r p 3 k i k (fun q => q < k) ∧ M1.2 13 g = 1 ∧ M1.2 17 g = 0 ∧ (0 ≤ h' ∧ h' < (k : Int)) ∧ h' = (if M1.1 24 + 1 < (k : Int) then M1.1 24 + 1 else 0) ∧ (∀ t, M1.2 13 t = M.2 13 t) ∧ (∀ t, Sx.2 1 t = S.2 1 t) ∧ Sx.1 17 = S.1 17 ∧ M1.1 27 = M.1 27 ∧ FR M M1 := by
  intro c
  induction c with
  | zero =>
    intro S M mk j f1 f2 t h hm hmk hc hj hf1 hf2 ht
    obtain ⟨f1, rfl⟩ : ∃ g, f1 = g + 1 := ⟨f1 - 1, by omega⟩
    obtain ⟨f2, rfl⟩ : ∃ g, f2 = g + 1 := ⟨f2 - 1, by omega⟩
    obtain ⟨hR, ⟨h8, hk1, hk8, hin, hlyk⟩, hsc, ⟨mk', hmk', hmk2, hmk3, hmk4⟩, hC, hT, hP, hN⟩ := id h
    obtain ⟨c1, c2, c3, c4, c5, c6, c7, c8, c9, c10, c11, c12, c13, c14, c15, c16, c17, c18, c19⟩ := hsc
    have : mk' = mk := by omega
    subst this
    obtain ⟨hd, hhd⟩ : ∃ hd : Nat, S.1 14 = (hd : Int) := ⟨(S.1 14).toNat, by omega⟩
    obtain ⟨t', e1, e2, e3, e4, e5⟩ := sh_at h (q := hd) (by omega)
    rw [hhd] at ht
    simp only [Int.toNat_natCast] at ht
    have : t' = t := by omega
    subst this
    have hoff : mk'.testBit t' = false := by
      cases z : mk'.testBit t'
      · rfl
      · have := (cn_pos (c := fun t => mk'.testBit t = true) (n := 16)).mpr ⟨t', e1, z⟩
        omega
    have hM : M.2 17 t' = 0 := by rcases hmk3 (Or.inr rfl) t' e1 with y | y; (rw [hoff] at y; cases y.1); exact y.2
    have hb := (wr_bit (a := mk') (t := t') (by omega) (by omega)).mpr hoff
    have hj61 : fX2_turnHand_j61 (S, R) = some ((t' : Int), (setI S 14 (((if hd + 1 < k then hd + 1 else 0) : Nat) : Int), R)) := by
      simp only [fX2_turnHand_j61, nm, hhd, bd_n (show hd < 8 by omega), Int.toNat_natCast, e2, c_handOn (R := R) c3 hhd hk8 (by omega), clv_s]
    refine ⟨t', S, M, (((if hd + 1 < k then hd + 1 else 0) : Nat) : Int), e1, ?_, ?_, h, e3, hM, ?_, ?_, fun _ => rfl, fun _ => rfl, rfl, rfl, FR_rf M⟩
    · simp only [fX2_turnHand_l2, hhd, bd_n (show hd < 8 by omega), Int.toNat_natCast, e2, hm, hb, ↓reduceIte, hj61, ite_self]
    · simp only [fX4_atHand_l9, fX4_atHand_j52, bd_n e1, Int.toNat_natCast, hM, wl_0, ↓reduceIte]
    · split <;> omega
    · rw [c9, hhd]
      by_cases q : hd + 1 < k
      · rw [if_pos q, if_pos (by omega)]; rfl
      · rw [if_neg q, if_neg (by omega)]; rfl
  | succ c ih =>
    intro S M mk j f1 f2 t h hm hmk hc hj hf1 hf2 ht
    obtain ⟨f1, rfl⟩ : ∃ g, f1 = g + 1 := ⟨f1 - 1, by omega⟩
    obtain ⟨f2, rfl⟩ : ∃ g, f2 = g + 1 := ⟨f2 - 1, by omega⟩
    obtain ⟨hR, ⟨h8, hk1, hk8, hin, hlyk⟩, hsc, ⟨mk', hmk', hmk2, hmk3, hmk4⟩, hC, hT, hP, hN⟩ := id h
    obtain ⟨c1, c2, c3, c4, c5, c6, c7, c8, c9, c10, c11, c12, c13, c14, c15, c16, c17, c18, c19⟩ := hsc
    have : mk' = mk := by omega
    subst this
    obtain ⟨hd, hhd⟩ : ∃ hd : Nat, S.1 14 = (hd : Int) := ⟨(S.1 14).toNat, by omega⟩
    obtain ⟨t', e1, e2, e3, e4, e5⟩ := sh_at h (q := hd) (by omega)
    rw [hhd] at ht
    simp only [Int.toNat_natCast] at ht
    have : t' = t := by omega
    subst this
    have hb := wr_bit (a := mk') (t := t') (by omega) (by omega)
    by_cases hoff : mk'.testBit t' = false
    · have hM : M.2 17 t' = 0 := by rcases hmk3 (Or.inr rfl) t' e1 with y | y; (rw [hoff] at y; cases y.1); exact y.2
      have hb := hb.mpr hoff
      have hj61 : fX2_turnHand_j61 (S, R) = some ((t' : Int), (setI S 14 (((if hd + 1 < k then hd + 1 else 0) : Nat) : Int), R)) := by
        simp only [fX2_turnHand_j61, nm, hhd, bd_n (show hd < 8 by omega), Int.toNat_natCast, e2, c_handOn (R := R) c3 hhd hk8 (by omega), clv_s]
      refine ⟨t', S, M, (((if hd + 1 < k then hd + 1 else 0) : Nat) : Int), e1, ?_, ?_, h, e3, hM, ?_, ?_, fun _ => rfl, fun _ => rfl, rfl, rfl, FR_rf M⟩
      · simp only [fX2_turnHand_l2, hhd, bd_n (show hd < 8 by omega), Int.toNat_natCast, e2, hm, hb, ↓reduceIte, hj61, ite_self]
      · simp only [fX4_atHand_l9, fX4_atHand_j52, bd_n e1, Int.toNat_natCast, hM, wl_0, ↓reduceIte]
      · split <;> omega
      · rw [c9, hhd]
        by_cases q : hd + 1 < k
        · rw [if_pos q, if_pos (by omega)]; rfl
        · rw [if_neg q, if_neg (by omega)]; rfl
    · have hon : mk'.testBit t' = true := by cases z : mk'.testBit t'; exact absurd z hoff; rfl
      have hM : M.2 17 t' = 1 := by rcases hmk3 (Or.inr rfl) t' e1 with y | y; exact y.2.1; (rw [hon] at y; cases y.1)
      have hbn : ¬ wr (andI (mk' : Int) (shlI 1 (t' : Int))) = 0 := fun z => hoff (hb.mp z)
      obtain ⟨h2, hh2⟩ : ∃ h2 : Nat, h2 = if hd + 1 < k then hd + 1 else 0 := ⟨_, rfl⟩
      have h2k : h2 < k := by rw [hh2]; split <;> omega
      have g17 : ∀ u, (setI (setA M 17 t' 0) 24 (h2 : Int)).2 17 u = if u = t' then 0 else M.2 17 u := fun u => by simp [sI2, sA2]
      have go : ∀ a u, a ≠ 17 → (setI (setA M 17 t' 0) 24 (h2 : Int)).2 a u = M.2 a u := fun a u ha => by simp [sI2, sA2, ha]
      have hFR : FR M (setI (setA M 17 t' 0) 24 (h2 : Int)) := ⟨fun j hj => by simp only [sI1, sA1]; rw [if_neg (by omega)], fun a u ha => go a u (by omega)⟩
      have hSH : SH (setI (setI S 12 ((clr mk' t' : Nat) : Int)) 14 (h2 : Int)) R (setI (setA M 17 t' 0) 24 (h2 : Int)) n r p 3 k i k (fun q => q < k) := by
        refine ⟨RR_keep hR hFR, ⟨h8, hk1, hk8, hin, hlyk⟩, ⟨c1, c2, c3, c4, c5, c6, c7, c8, rfl, ?_, ?_, c12, c13, c14, c15, c16, c17, c18, c19⟩, ⟨clr mk' t', clr_lt hmk', rfl, fun _ u hu => ?_, fun q => absurd (Or.inr rfl) q⟩, hC, fun u hu => ?_, ?_, hN⟩
        · show (0 : Int) ≤ (h2 : Int); omega
        · show (h2 : Int) < (k : Int); omega
        · rw [g17, go 13 u (by decide), clr_bit hmk']
          by_cases e : u = t'
          · subst e; right; simp
          · simp only [e, decide_false, Bool.not_false, Bool.and_true, ↓reduceIte]
            exact hmk3 (Or.inr rfl) u hu
        · exact TH_keep (hT u hu) (Nat.le_refl _) ⟨rfl, rfl, rfl, rfl, rfl, rfl⟩ ⟨go 13 u (by decide), go 14 u (by decide), go 15 u (by decide), go 16 u (by decide), go 18 u (by decide), go 19 u (by decide), go 20 u (by decide), go 21 u (by decide)⟩ (fun q _ ho _ => ⟨ho, rfl⟩) (fun _ _ j z1 z2 => by omega)
        · intro q hq ho
          obtain ⟨u, y1, y2, y3, y4⟩ := hP q hq ho
          exact ⟨u, y1, y2, (go 13 u (by decide)).trans y3, (go 18 u (by decide)).trans y4⟩
      have hcn : cn (fun t => (clr mk' t').testBit t = true) 16 = c := by
        have u := cn_upd (c := fun t => mk'.testBit t = true) (c' := fun t => (clr mk' t').testBit t = true) (n := 16) e1 (fun u _ hu => by rw [clr_bit hmk']; simp [hu])
        rw [clr_bit hmk'] at u
        simp [hon] at u
        omega
      obtain ⟨t2, y1, y2, y3, y4, y5⟩ := sh_at hSH (q := h2) h2k
      obtain ⟨g, Sx, M1, h', z1, z2, z3, z4, z5, z6, z7, z8, z9, z10, z11, z12, z13⟩ := ih _ _ (clr mk' t') (j + 1) f1 f2 t2 hSH rfl (clr_lt hmk') hcn (by omega) (by omega) (by omega) y2
      refine ⟨g, Sx, M1, h', z1, ?_, ?_, z4, z5, z6, z7, z8, fun u => (z9 u).trans (go 13 u (by decide)), fun u => (z10 u).trans rfl, z11.trans rfl, z12.trans rfl, FR_tr hFR z13⟩
      · have hmo : fX2_moveHandOn (setI S 12 ((clr mk' t' : Nat) : Int), R) = some (setI (setI S 12 ((clr mk' t' : Nat) : Int)) 14 (h2 : Int), R) := by
          rw [c_handOn (S := setI S 12 ((clr mk' t' : Nat) : Int)) (R := R) (k := k) (h := hd) c3 hhd hk8 (by omega), hh2]
        simp only [fX2_turnHand_l2, c3, wr_nat (show k < 2147483648 by omega), wr_nat (show j < 2147483648 by omega), hhd, bd_n (show hd < 8 by omega), Int.toNat_natCast, e2, hm, if_neg hbn, nm, and_not hmk' (show t' < 31 by omega), hmo, clv_s, up1, z2]
        rw [if_neg (by omega)]
      · have e24 : M.1 24 + 1 = ((hd + 1 : Nat) : Int) := by omega
        have hrem : remI ((hd + 1 : Nat) : Int) (k : Int) = (h2 : Int) := by
          rw [rem_nat (by omega) (by omega) (by omega), hh2]
          by_cases q : hd + 1 < k
          · rw [if_pos q, Nat.mod_eq_of_lt q]
          · have : hd + 1 = k := by omega
            rw [if_neg q, this, Nat.mod_self]
        simp only [fX4_atHand_l9, bd_n e1, Int.toNat_natCast, hM, wl_1, Int.one_ne_zero, ↓reduceIte, cb_0, nm, sA1, c4, e24, hrem, cz_pos (show wr (k : Int) ≠ 0 by rw [wr_nat (by omega)]; omega), sI1, y5, cls_s, z3]
theorem ch_3 {S R M : St} {n : Nat} {r p : Nat → Nat} {k i : Nat} (h : SH S R M n r p 3 k i k (fun q => q < k)) : CH S R M n r p 3 k i := by
  obtain ⟨hR, ⟨h8, hk1, hk8, hin, hlyk⟩, hsc, ⟨mk, hmk, hmk2, hmk3, hmk4⟩, hC, hT, hP, hN⟩ := id h
  obtain ⟨c1, c2, c3, c4, c5, c6, c7, c8, c9, c10, c11, c12, c13, c14, c15, c16, c17, c18, c19⟩ := hsc
  obtain ⟨hd, hhd⟩ : ∃ hd : Nat, S.1 14 = (hd : Int) := ⟨(S.1 14).toNat, by omega⟩
  obtain ⟨t', e1, e2, e3, e4, e5⟩ := sh_at h (q := hd) (by omega)
  have hle : cn (fun t => mk.testBit t = true) 16 ≤ k := by
    have a := (cn_mono (c := fun t => mk.testBit t = true) (c' := fun t => M.2 13 t = 1) (n := 16) (fun t ht q => by rcases hmk3 (Or.inr rfl) t ht with z | z; exact z.2.2; (rw [q] at z; cases z.1))).1
    have := sh_cn h
    omega
  obtain ⟨g, Sx, M1, h', z1, z2, z3, z4, z5, z6, z7, z8, z9, z10, z11, z12, z13⟩ := clock _ S M mk 0 FU FU t' h hmk2 hmk rfl (by omega) (FU_gt (by omega)) (FU_gt (by omega)) (by rw [hhd]; exact e2)
  refine ⟨g, Sx, M1, h', z1, ?_, ?_, z4, z5, fun _ => z6, z7, ⟨fun _ => z8, fun q => absurd rfl q⟩, z9, z10, z11, z12, z13⟩
  · have hz2 : fX2_turnHand_l2 FU 0 (S, R) = _ := z2
    simp only [fX2_chooseGoing, fX2_turnHand, nm, c1, show ((3 : Nat) : Int) = 3 from rfl, wl_3, hz2, cls_s]
    simp
  · have e24 : M.1 24 = (hd : Int) := by omega
    simp only [fX4_chosen, fX4_atHand, nm, c2, show ((3 : Nat) : Int) = 3 from rfl, wl_3, e24, e5, cls_s, z3]
    simp
