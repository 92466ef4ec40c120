/-! the model's bits -/
def bo (r : Nat → Nat) (n t : Nat) : Nat := cn (fun x => (bt r n).testBit x = true) t
theorem bt_mono {r : Nat → Nat} {t s : Nat} (h : (bt r s).testBit t = true) : ∀ d, (bt r (s + d)).testBit t = true := by
  intro d
  induction d with
  | zero => exact h
  | succ d ih => rw [← Nat.add_assoc, bt_b, ih]; rfl
theorem bt_in {r : Nat → Nat} {n i : Nat} (h : i < n) : (bt r n).testBit (r i) = true := by
  have h1 : (bt r (i + 1)).testBit (r i) = true := by rw [bt_b]; simp
  have := bt_mono h1 (n - (i + 1))
  rw [show i + 1 + (n - (i + 1)) = n by omega] at this
  exact this
theorem bo_lt {r : Nat → Nat} {n t : Nat} (ht : t < 16) (hb : (bt r n).testBit t = true) : bo r n t < bo r n 16 := cn_lt ht hb
/-- of the things below t the bits are set -/
def b29 (M : St) (r : Nat → Nat) (n t : Nat) : St := (M.1, fun a x => if a = 29 ∧ x < t then (if (bt r n).testBit x = true then ((bo r n x : Nat) : Int) else -1) else M.2 a x)
def v29 (M : St) (t : Nat) (v : Int) : St := (M.1, fun a x => if a = 29 ∧ x = t then v else M.2 a x)
theorem v29_set (M : St) (t : Nat) (v : Int) : setA M 29 t v = v29 M t v := by
  refine st_ext (fun _ => rfl) (fun a x => ?_)
  rw [sA2]
  unfold v29
  simp only
  grind
theorem v29_v29 (M : St) (t : Nat) (v w : Int) : v29 (v29 M t v) t w = v29 M t w := by
  refine st_ext (fun _ => rfl) (fun a x => ?_)
  unfold v29
  simp only
  grind
theorem b29_s (M : St) (r : Nat → Nat) (n t : Nat) : v29 (b29 M r n t) t (if (bt r n).testBit t = true then ((bo r n t : Nat) : Int) else -1) = b29 M r n (t + 1) := by
  refine st_ext (fun _ => rfl) (fun a x => ?_)
  unfold v29 b29
  simp only
  grind
theorem m_l20 {M : St} {n : Nat} {r : Nat → Nat} {K : Int → Int → Int → St → Option (Int × St)} {v1 : Int} {w t : Nat} (h2 : M.1 2 = (n : Int)) (hn3 : n ≤ 300) (hr : ∀ i, i < n → r i < 16 ∧ M.2 1 i = (r i : Int)) (ht : t < 16) (hw : w ≤ 16) : ∀ (d s f : Nat), s + d = n → d < f → fX4_findLeast_l20 K f v1 (w : Int) (t : Int) (s : Int) (v29 M t (if (bt r s).testBit t = true then (w : Int) else -1)) = fX4_findLeast_j66 K v1 (w : Int) (t : Int) (v29 M t (if (bt r n).testBit t = true then (w : Int) else -1)) := by
  have ev : ∀ v : Int, (v29 M t v).2 29 t = v := fun v => by unfold v29; simp
  have e1 : ∀ (v : Int) (i : Nat), (v29 M t v).2 1 i = M.2 1 i := fun v i => by unfold v29; simp
  intro d
  induction d with
  | zero =>
    intro s f hs hf
    obtain ⟨f', rfl⟩ : ∃ f', f = f' + 1 := ⟨f - 1, by omega⟩
    have hsn : s = n := by omega
    subst hsn
    have e : wr ((v29 M t (if (bt r s).testBit t = true then (w : Int) else -1)).1 2) ≤ wr (s : Int) := by show wr (M.1 2) ≤ _; rw [h2]; exact Int.le_refl _
    unfold fX4_findLeast_l20
    rw [if_pos e]
  | succ d ih =>
    intro s f hs hf
    obtain ⟨f', rfl⟩ : ∃ f', f = f' + 1 := ⟨f - 1, by omega⟩
    have e : ¬ wr ((v29 M t (if (bt r s).testBit t = true then (w : Int) else -1)).1 2) ≤ wr (s : Int) := by show ¬ wr (M.1 2) ≤ _; rw [h2, wr_nat (by omega), wr_nat (by omega)]; omega
    obtain ⟨a, b⟩ := hr s (by omega)
    have hi := ih (s + 1) f' (by omega) (by omega)
    rw [bt_b] at hi
    unfold fX4_findLeast_l20
    rw [if_neg e, bd_n ht, Int.toNat_natCast, ev]
    by_cases q : (bt r s).testBit t = true
    · have hN := bt_mono q (n - s)
      rw [show s + (n - s) = n by omega] at hN
      have e3 : 0 ≤ wr (w : Int) := by rw [wr_nat (by omega)]; omega
      rw [if_pos q, if_pos e3, if_pos hN]
    · have q' : (bt r s).testBit t = false := by simpa using q
      have e3 : ¬ 0 ≤ wr (-1) := by decide
      rw [q', Bool.false_or] at hi
      rw [if_neg q, if_neg e3, bd_n (show s < 300 by omega), Int.toNat_natCast, e1, b]
      unfold fX4_findLeast_j59
      by_cases z : t = r s
      · have e2 : wr ((r s : Nat) : Int) = wr (t : Int) := by rw [z]
        rw [if_pos (by simp [z])] at hi
        rw [if_pos e2, bd_n ht, Int.toNat_natCast, nm_q, nm_q, up1, v29_set, v29_v29]
        exact hi
      · have e2 : ¬ wr ((r s : Nat) : Int) = wr (t : Int) := by rw [wr_nat (by omega), wr_nat (by omega)]; omega
        rw [if_neg (by simp [z])] at hi
        rw [if_neg e2, bd_n ht, Int.toNat_natCast, nm_q, nm_q, up1, v29_set, v29_v29]
        exact hi
theorem m_l4 {M : St} {n : Nat} {r : Nat → Nat} {v1 : Int} (h2 : M.1 2 = (n : Int)) (hn3 : n ≤ 300) (hr : ∀ i, i < n → r i < 16 ∧ M.2 1 i = (r i : Int)) : ∀ (d t f : Nat), t + d = 16 → d < f → fX4_findLeast_l4 f v1 ((bo r n t : Nat) : Int) (t : Int) (b29 M r n t) = fX4_findLeast_j89 v1 ((bo r n 16 : Nat) : Int) (b29 M r n 16) := by
  intro d
  induction d with
  | zero =>
    intro t f hs hf
    obtain ⟨f', rfl⟩ : ∃ f', f = f' + 1 := ⟨f - 1, by omega⟩
    have hsn : t = 16 := by omega
    subst hsn
    have e : wr 16 ≤ wr ((16 : Nat) : Int) := by decide
    unfold fX4_findLeast_l4
    rw [if_pos e]
  | succ d ih =>
    intro t f hs hf
    obtain ⟨f', rfl⟩ : ∃ f', f = f' + 1 := ⟨f - 1, by omega⟩
    have ht : t < 16 := by omega
    have e : ¬ wr 16 ≤ wr (t : Int) := by rw [wl_16, wr_nat (by omega)]; omega
    have hb16 : bo r n t ≤ t := cn_le _ t
    have h0 := m_l20 (M := b29 M r n t) (K := fX4_findLeast_l4 f') (v1 := v1) (w := bo r n t) (t := t) h2 hn3 (fun i hi => ⟨(hr i hi).1, by unfold b29; simp only; rw [if_neg (by omega)]; exact (hr i hi).2⟩) ht (by omega) n 0 FU (by omega) (FU_gt (by omega))
    rw [show (bt r 0).testBit t = false by show (0 : Nat).testBit t = false; simp, if_neg (by decide)] at h0
    have hi := ih (t + 1) f' (by omega) (by omega)
    unfold fX4_findLeast_l4
    rw [if_neg e, bd_n ht, Int.toNat_natCast, nm_q, nm_q, v29_set]
    refine Eq.trans h0 ?_
    have hs1 := b29_s M r n t
    have ec : bo r n (t + 1) = bo r n t + (if (bt r n).testBit t = true then 1 else 0) := rfl
    have ev : ∀ v : Int, (v29 (b29 M r n t) t v).2 29 t = v := fun v => by unfold v29; simp
    unfold fX4_findLeast_j66 fX4_findLeast_j81
    rw [bd_n ht, Int.toNat_natCast, ev]
    by_cases q : (bt r n).testBit t = true
    · have e2 : ¬ wr ((bo r n t : Nat) : Int) < 0 := by rw [wr_nat (by omega)]; omega
      rw [if_pos q] at hs1 ec
      rw [if_pos q, if_neg e2, nm_q, nm_q, up1, hs1, up1, ← ec]
      exact hi
    · have e2 : wr (-1) < 0 := by decide
      rw [if_neg q] at hs1 ec
      rw [if_neg q, if_pos e2, nm_q, nm_q, up1, hs1, Int.add_zero]
      rw [ec, Nat.add_zero] at hi
      exact hi
/-- bits and prices of a row -/
def qf (r : Nat → Nat) (n i : Nat) : Nat := bo r n (r i)
def pf (r p : Nat → Nat) (i : Nat) : Nat := p (r i)
theorem QC_row {R M : St} {n : Nat} {r p : Nat → Nat} {k : Nat} (h : RR R M n r p) (hk : 1 ≤ k ∧ k ≤ 8) (hu : bo r n 16 ≤ 10) : QC (qf r n) (pf r p) k n (bo r n 16) := by
  refine ⟨h.2.2.1, hk, hu, fun i hi => ?_⟩
  obtain ⟨a, -, -⟩ := h.2.2.2.1 i hi
  exact ⟨bo_lt a (bt_in hi), (h.2.2.2.2 (r i) a).2.1⟩
theorem m_find {R M : St} {n : Nat} {r p : Nat → Nat} {k : Nat} (h : RR R M n r p) (hk : 1 ≤ k ∧ k ≤ 8) (hu : bo r n 16 ≤ 10) : ∃ M', fX4_findLeast M (k : Int) = some (1, M') ∧ FR M M' ∧ MB M' n r (qf r n) (pf r p) ∧ (∀ t, t < 16 → M'.2 29 t = if (bt r n).testBit t = true then ((bo r n t : Nat) : Int) else -1) ∧ ∀ j X, X < 2 ^ (bo r n 16) → j ≤ n → M'.2 30 (1024 * j + X) = ((eE (qf r n) (pf r p) k n j X : Nat) : Int) := by
  have hn3 := h.2.2.1
  have hQ := QC_row h hk hu
  have h4 := m_l4 (M := M) (r := r) (v1 := (k : Int)) h.2.1 hn3 (fun i hi => ⟨(h.2.2.2.1 i hi).1, (h.2.2.2.1 i hi).2.2⟩) 16 0 FU (by omega) (FU_gt (by omega))
  have e0 : b29 M r n 0 = M := st_ext (fun _ => rfl) (fun a x => by unfold b29; simp)
  rw [e0] at h4
  obtain ⟨Mb, hMb⟩ : ∃ Mb, Mb = setI (b29 M r n 16) 31 ((2 ^ (bo r n 16) : Nat) : Int) := ⟨_, rfl⟩
  have hF : FR M Mb := by
    rw [hMb]
    refine ⟨fun j hj => ?_, fun a t ha => ?_⟩
    · rw [sI1, if_neg (by omega)]; rfl
    · show (if a = 29 ∧ t < 16 then _ else M.2 a t) = M.2 a t
      rw [if_neg (by omega)]
  have h29 : ∀ t, t < 16 → Mb.2 29 t = if (bt r n).testBit t = true then ((bo r n t : Nat) : Int) else -1 := by
    intro t ht
    rw [hMb]
    show (if 29 = 29 ∧ t < 16 then _ else M.2 29 t) = _
    rw [if_pos ⟨rfl, ht⟩]
  have hB : MB Mb n r (qf r n) (pf r p) := by
    refine ⟨(hF.1 2 (by omega)).trans h.2.1, fun i hi => ?_⟩
    obtain ⟨a, -, b⟩ := h.2.2.2.1 i hi
    refine ⟨a, (hF.2 1 i (by omega)).trans b, ?_, (hF.2 0 _ (by omega)).trans (h.2.2.2.2 (r i) a).2.2.2⟩
    rw [h29 _ a, if_pos (bt_in hi)]
    rfl
  have hS : MS Mb Mb n r (qf r n) (pf r p) k (bo r n 16) (n + 1) (2 ^ (bo r n 16)) := ⟨hB, by rw [hMb]; rfl, FR_rf _, fun _ => rfl, fun j X hX hj hc => by omega⟩
  obtain ⟨M', g1, g2⟩ := m_l109 hQ (n + 1) FU Mb (Nat.le_refl _) (FU_gt (by omega)) hS
  refine ⟨M', ?_, FR_tr hF g2.2.2.1, g2.1, fun t ht => (g2.2.2.2.1 t).trans (h29 t ht), fun j X hX hj => g2.2.2.2.2 j X hX hj (by omega)⟩
  unfold fX4_findLeast
  rw [nm_q, nm_q]
  refine Eq.trans h4 ?_
  have e1 : wr ((bo r n 16 : Nat) : Int) ≤ wr 10 := by rw [wl_10, wr_nat (by omega)]; omega
  unfold fX4_findLeast_j89
  rw [if_pos e1, nm_q, nm_q, shl1 (by omega), ← hMb, hB.1]
  have e2 : ((n + 1 : Nat) : Int) - 1 = (n : Int) := by omega
  rw [e2] at g1
  exact g1
theorem m_find_no {R M : St} {n : Nat} {r p : Nat → Nat} {k : Int} (h : RR R M n r p) (hu : 10 < bo r n 16) : ∃ M', fX4_findLeast M k = some (0, M') ∧ FR M M' := by
  have hn3 := h.2.2.1
  have h4 := m_l4 (M := M) (r := r) (v1 := k) h.2.1 hn3 (fun i hi => ⟨(h.2.2.2.1 i hi).1, (h.2.2.2.1 i hi).2.2⟩) 16 0 FU (by omega) (FU_gt (by omega))
  have e0 : b29 M r n 0 = M := st_ext (fun _ => rfl) (fun a x => by unfold b29; simp)
  rw [e0] at h4
  have hb16 : bo r n 16 ≤ 16 := cn_le _ 16
  have e1 : ¬ wr ((bo r n 16 : Nat) : Int) ≤ wr 10 := by rw [wl_10, wr_nat (by omega)]; omega
  refine ⟨b29 M r n 16, ?_, fun j hj => rfl, fun a t ha => ?_⟩
  · unfold fX4_findLeast
    rw [nm_q, nm_q]
    refine Eq.trans h4 ?_
    unfold fX4_findLeast_j89
    rw [if_neg e1, cb_0]
  · show (if a = 29 ∧ t < 16 then _ else M.2 a t) = M.2 a t
    rw [if_neg (by omega)]
theorem m_least {R M : St} {n : Nat} {r p : Nat → Nat} {k : Nat} (h : RR R M n r p) (hk : 1 ≤ k ∧ k ≤ 8) (hu : bo r n 16 ≤ 10) : ∃ M', fX4_least_ M (k : Int) = some (((eE (qf r n) (pf r p) k n 0 0 : Nat) : Int), M') ∧ FR M M' := by
  obtain ⟨M', g1, g2, g3, g4, g5⟩ := m_find h hk hu
  refine ⟨M', ?_, g2⟩
  have e := g5 0 0 (Nat.pow_pos (by decide)) (by omega)
  have hk2 : 1 ≤ (k : Int) ∧ (k : Int) ≤ 8 := by omega
  unfold fX4_least_
  rw [m_in (wr_nat (by omega)) wl_1 wl_8, clp_s, if_pos hk2, if_neg w1, g1, cls_s, if_neg w1]
  unfold fX4_least__j31
  rw [bd_pos (by decide)]
  show some (M'.2 30 0, M') = _
  rw [show (0 : Nat) = 1024 * 0 + 0 from rfl, e]
