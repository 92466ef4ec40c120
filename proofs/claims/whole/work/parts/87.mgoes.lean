/-! the model's goes -/
theorem m_thingAt {M : St} {b t0 : Nat} (hb : b < 16) (ht0 : t0 < 16) (h : ∀ t, t < 16 → wr (M.2 29 t) = M.2 29 t ∧ (M.2 29 t = (b : Int) ↔ t = t0)) : fX4_thingAt M (b : Int) = some ((t0 : Int), M) := by
  refine loop_gen (fun f v t => fX4_thingAt_l4 f (b : Int) v (t : Int) M) (fun t => if t0 < t then (t0 : Int) else -1) _ 0 16 (by decide) (by decide) (fun f => ?_) (fun f t _ ht => ?_)
  · have e : wr 16 ≤ wr ((16 : Nat) : Int) := by decide
    simp only [fX4_thingAt_l4]
    rw [if_pos e, if_pos ht0]
    rfl
  · have e : ¬ wr 16 ≤ wr (t : Int) := by rw [wl_16, wr_nat (by omega)]; omega
    obtain ⟨h1, h2⟩ := h t ht
    simp only [fX4_thingAt_l4, fX4_thingAt_j25]
    rw [if_neg e, bd_n ht, Int.toNat_natCast, h1, wr_nat (show b < 2147483648 by omega), nm_q, nm_q, nm_q, nm_q, up1]
    by_cases z : t = t0
    · rw [if_pos (h2.mpr z), if_pos (by omega), z]
    · rw [if_neg (fun y => z (h2.mp y))]
      by_cases y : t0 < t
      · rw [if_pos y, if_pos (by omega)]
      · rw [if_neg y, if_neg (by omega)]
theorem m_l72 {M : St} {n : Nat} {r q c : Nat → Nat} {k u j S g : Nat} {v2 : Int} {K : Int → Int → Int → Int → Int → St → Option (Int × St)} (hQ : QC q c k n u) (h : MB M n r q c) (hT : ∀ j X, X < 2 ^ u → j ≤ n → M.2 30 (1024 * j + X) = ((eE q c k n j X : Nat) : Int)) (hj : j < n) (hS : S < 2 ^ u) (hk : pc S = k) (hb : ¬ S.testBit (q j) = true) (hg : S.testBit g = true) (hl : ∀ x, x < 10 → S.testBit x = true → kE q c k n j S g ≤ kE q c k n j S x) (hf : ∀ x, x < g → S.testBit x = true → kE q c k n j S g < kE q c k n j S x) : ∀ (t f : Nat) (v4 : Int), t ≤ 10 → (t ≤ g → v4 = (g : Int)) → t < f → fX4_goes_l72 K f (k : Int) v2 (S : Int) v4 (j : Int) (q j : Int) ((t : Int) - 1) M = fX4_goes_j138 K (k : Int) v2 (S : Int) (g : Int) (j : Int) (q j : Int) M := by
  have hu := hQ.2.2.1
  have hn := hQ.1
  have h1024 := pu hu
  obtain ⟨hq, hc⟩ := hQ.2.2.2 j hj
  have hE := eE_full hQ hj hS hk hb hg hl
  intro t
  induction t with
  | zero =>
    intro f v4 ht hv hf
    obtain ⟨f', rfl⟩ : ∃ f', f = f' + 1 := ⟨f - 1, by omega⟩
    have e : wr (((0 : Nat) : Int) - 1) < 0 := by decide
    unfold fX4_goes_l72
    rw [if_pos e, hv (by omega)]
  | succ t ih =>
    intro f v4 ht hv hf'
    obtain ⟨f', rfl⟩ : ∃ f', f = f' + 1 := ⟨f - 1, by omega⟩
    have em : ((t + 1 : Nat) : Int) - 1 = (t : Int) := by omega
    have e : ¬ wr (t : Int) < 0 := by rw [wr_nat (by omega)]; omega
    have ek : wr ((pc S : Nat) : Int) = wr (k : Int) := by rw [hk]
    rw [em]
    unfold fX4_goes_l72
    rw [if_neg e, m_sizeOf (by omega), cls_s, if_pos ek, sb (show S < 65536 by omega) (show t < 16 by omega)]
    unfold fX4_goes_j128 fX4_goes_j130
    by_cases z : S.testBit t = true
    · have hX := or_lt (clr_lt (t := t) hS) hq
      have hE2 := eE_le hQ (i := j + 1) (by omega) hX
      have hE3 := eE_le hQ (i := j) (by omega) hS
      have hidx : 1024 * (j : Int) + (S : Int) = ((1024 * j + S : Nat) : Int) := by omega
      have hv2 : (c j : Int) + ((eE q c k n (j + 1) (clr S t ||| 2 ^ q j) : Nat) : Int) = ((c j + kE q c k n j S t : Nat) : Int) := by unfold kE; omega
      have hk2 : kE q c k n j S t ≤ 300000 := hE2
      rw [if_pos z, if_pos rfl, m_bh h hn hj (by omega) (by omega) (by omega), cls_s, hidx, bd_n (show 1024 * j + S < 308224 by omega), Int.toNat_natCast, hT (j + 1) _ hX (by omega), hT j S hS (by omega), hv2, nm_q, nm_q, nm_q, nm_q, show (t : Int) + -1 = (t : Int) - 1 from rfl]
      by_cases y : c j + kE q c k n j S t = eE q c k n j S
      · have e2 : wr ((c j + kE q c k n j S t : Nat) : Int) = wr ((eE q c k n j S : Nat) : Int) := by rw [y]
        rw [if_pos e2]
        refine ih f' _ (by omega) (fun w => ?_) (by omega)
        by_cases x : t < g
        · have := hf t x z; omega
        · omega
      · have e2 : ¬ wr ((c j + kE q c k n j S t : Nat) : Int) = wr ((eE q c k n j S : Nat) : Int) := by rw [wr_nat (by omega), wr_nat (by omega)]; omega
        rw [if_neg e2]
        refine ih f' _ (by omega) (fun w => ?_) (by omega)
        by_cases x : t = g
        · rw [x] at y; omega
        · exact hv (by omega)
    · rw [if_neg z, if_neg w01, nm_q, nm_q, show (t : Int) + -1 = (t : Int) - 1 from rfl]
      refine ih f' _ (by omega) (fun w => ?_) (by omega)
      by_cases x : t = g
      · rw [x] at z; exact absurd hg z
      · exact hv (by omega)
theorem m_l36 {M : St} {n : Nat} {r q c : Nat → Nat} {k u i : Nat} (hQ : QC q c k n u) (h : MB M n r q c) (hT : ∀ j X, X < 2 ^ u → j ≤ n → M.2 30 (1024 * j + X) = ((eE q c k n j X : Nat) : Int)) (hi : i < n) : ∀ (d s f : Nat) (v4 : Int), s + d = i + 1 → d < f → (d = 0 → v4 = gE q c k n i) → fX4_goes_l36 f (k : Int) (i : Int) ((sE q c k n s : Nat) : Int) v4 (s : Int) M = fX4_goes_j167 (gE q c k n i) M := by
  have hu := hQ.2.2.1
  have hn := hQ.1
  have hk8 := hQ.2.1
  have h1024 := pu hu
  intro d
  induction d with
  | zero =>
    intro s f v4 hs hf hv
    obtain ⟨f', rfl⟩ : ∃ f', f = f' + 1 := ⟨f - 1, by omega⟩
    have e : wr (i : Int) < wr (s : Int) := by rw [wr_nat (by omega), wr_nat (by omega)]; omega
    unfold fX4_goes_l36
    rw [if_pos e, hv rfl]
  | succ d ih =>
    intro s f v4 hs hf hv
    obtain ⟨f', rfl⟩ : ∃ f', f = f' + 1 := ⟨f - 1, by omega⟩
    have e : ¬ wr (i : Int) < wr (s : Int) := by rw [wr_nat (by omega), wr_nat (by omega)]; omega
    have hsn : s < n := by omega
    obtain ⟨hS, hp⟩ := sE_b hQ s (by omega)
    obtain ⟨a, b, d', e'⟩ := h.2 s hsn
    obtain ⟨hq, hc⟩ := hQ.2.2.2 s hsn
    have hi' := fun v => ih (s + 1) f' v (by omega) (by omega)
    rw [sE_s] at hi'
    have hg : gE q c k n s = if (sE q c k n s).testBit (q s) = true then -1 else if pc (sE q c k n s) < k then -1 else ch q c k n s (sE q c k n s) 10 := rfl
    have hsi : d = 0 → s = i := fun z => by omega
    unfold fX4_goes_l36
    rw [if_neg e, bd_n (show s < 300 by omega), Int.toNat_natCast, b, bd_n a, Int.toNat_natCast, d', nm_q, nm_q, sb (show sE q c k n s < 65536 by omega) (show q s < 16 by omega)]
    by_cases q1 : (sE q c k n s).testBit (q s) = true
    · rw [if_pos q1] at hi' hg
      rw [if_pos q1, if_neg w1]
      unfold fX4_goes_j161
      rw [nm_q, up1]
      exact hi' (-1) (fun z => by rw [← hsi z, hg])
    · rw [if_neg q1] at hi' hg
      rw [if_neg q1, if_pos wl_0, nm_q]
      by_cases q2 : pc (sE q c k n s) < k
      · rw [if_pos q2] at hi' hg
        have e9 : ¬ wr 9 < 0 := by decide
        have ek : ¬ wr ((pc (sE q c k n s) : Nat) : Int) = wr (k : Int) := by rw [wr_nat (by omega), wr_nat (by omega)]; omega
        have em : ¬ 0 ≤ wr (-1) := by decide
        obtain ⟨F, hF⟩ : ∃ F, FU = F + 1 := ⟨FU - 1, by have := FU_le; omega⟩
        rw [hF]
        unfold fX4_goes_l72
        rw [if_neg e9, m_sizeOf (by omega), cls_s, if_neg ek]
        unfold fX4_goes_j138
        rw [if_neg em]
        unfold fX4_goes_j155 fX4_goes_j161
        rw [(or_bit (a := sE q c k n s) (t := q s) (by omega) (by omega)).1, nm_q, nm_q, up1]
        exact hi' (-1) (fun z => by rw [← hsi z, hg])
      · rw [if_neg q2] at hi' hg
        obtain ⟨g, -, g1, g2, g3, g4, g5⟩ := ch_p (q := q) (c := c) (k := k) (n := n) (i := s) hu hS (by omega)
        rw [g1, Int.toNat_natCast] at hi'
        rw [g1] at hg
        have h72 := m_l72 (K := fX4_goes_l36 f') (v2 := (i : Int)) hQ h hT hsn hS (by omega) q1 g3 g4 g5 10 FU (-1) (by omega) (fun z => by omega) (FU_gt (by omega))
        rw [show ((10 : Nat) : Int) - 1 = 9 from rfl] at h72
        refine Eq.trans h72 ?_
        have eg : 0 ≤ wr (g : Int) := by rw [wr_nat (by omega)]; omega
        unfold fX4_goes_j138
        rw [if_pos eg]
        unfold fX4_goes_j155 fX4_goes_j161
        have hcl : clr (sE q c k n s) g < 65536 := clr_lt (by omega)
        rw [and_not (by omega) (by omega), (or_bit (a := clr (sE q c k n s) g) (t := q s) hcl (by omega)).1, nm_q, nm_q, up1]
        exact hi' _ (fun z => by rw [← hsi z, hg])
theorem m_goes {R M : St} {n : Nat} {r p : Nat → Nat} {k i : Nat} (h : RR R M n r p) (hk : 1 ≤ k ∧ k ≤ 8) (hu : bo r n 16 ≤ 10) (hi : i < n) : ∃ M', FR M M' ∧ (gE (qf r n) (pf r p) k n i = -1 → fX4_goes M (k : Int) (i : Int) = some (-1, M')) ∧ ∀ t, t < 16 → (bt r n).testBit t = true → gE (qf r n) (pf r p) k n i = ((bo r n t : Nat) : Int) → fX4_goes M (k : Int) (i : Int) = some ((t : Int), M') := by
  have hn3 := h.2.2.1
  obtain ⟨M', g1, g2, g3, g4, g5⟩ := m_find h hk hu
  have hQ := QC_row h hk hu
  have h36 := m_l36 hQ g3 g5 hi (i + 1) 0 FU (-1) (by omega) (FU_gt (by omega)) (fun z => by omega)
  have key : fX4_goes M (k : Int) (i : Int) = fX4_goes_j167 (gE (qf r n) (pf r p) k n i) M' := by
    have hk2 : 1 ≤ (k : Int) ∧ (k : Int) ≤ 8 := by omega
    have hi2 : 0 ≤ (i : Int) ∧ (i : Int) < (n : Int) := by omega
    unfold fX4_goes
    rw [m_in (wr_nat (by omega)) wl_1 wl_8, clp_s, if_pos hk2, if_neg w1, m_isAsking (wr_nat (by omega)) h.2.1 hn3, cls_s, if_pos hi2, if_neg w1, g1, cls_s, if_neg w1, nm_q, nm_q, nm_q]
    exact h36
  refine ⟨M', g2, fun z => ?_, fun t ht hb z => ?_⟩
  · have em : ¬ 0 ≤ wr (-1) := by decide
    rw [key, z]
    unfold fX4_goes_j167 fX4_goes_j182
    rw [if_neg em]
  · have hlt := bo_lt ht hb
    have eg : 0 ≤ wr ((bo r n t : Nat) : Int) := by rw [wr_nat (by omega)]; omega
    rw [key, z]
    unfold fX4_goes_j167 fX4_goes_j182
    rw [if_pos eg, m_thingAt (t0 := t) (by omega) ht (fun x hx => ?_), cls_s]
    rw [g4 x hx]
    by_cases y : (bt r n).testBit x = true
    · have hlx := bo_lt hx y
      rw [if_pos y]
      refine ⟨wr_nat (by omega), fun w => ?_, fun w => by rw [w]⟩
      exact cn_inj (c := fun x => (bt r n).testBit x = true) y hb (by unfold bo at w; omega)
    · rw [if_neg y]
      refine ⟨wl_m1, fun w => by omega, fun w => ?_⟩
      rw [w] at y
      exact absurd hb y
