/-! loops whose state at each turn is known -/
theorem loop_gen {O σ : Type} (lp : Nat → σ → Nat → Option O) (st : Nat → σ) (res : Option O) (t0 N : Nat) (h0 : t0 ≤ N) (hF : N - t0 < 100000) (hend : ∀ f, lp (f + 1) (st N) N = res) (hstep : ∀ f t, t0 ≤ t → t < N → lp (f + 1) (st t) t = lp f (st (t + 1)) (t + 1)) : lp FU (st t0) t0 = res := by
  have key : ∀ (d f t : Nat), t0 ≤ t → t + d = N → d < f → lp f (st t) t = res := by
    intro d
    induction d with
    | zero =>
      intro f t hb ht hf
      obtain ⟨f, rfl⟩ : ∃ g, f = g + 1 := ⟨f - 1, by omega⟩
      have ht : t = N := ht
      subst ht
      exact hend f
    | succ d ih =>
      intro f t hb ht hf
      obtain ⟨f, rfl⟩ : ∃ g, f = g + 1 := ⟨f - 1, by omega⟩
      rw [hstep f t hb (by omega)]
      exact ih f (t + 1) (by omega) (by omega) (by omega)
  exact key (N - t0) FU t0 (Nat.le_refl _) (by omega) (FU_gt hF)
theorem st_ext {S S' : St} (h1 : ∀ k, S.1 k = S'.1 k) (h2 : ∀ a x, S.2 a x = S'.2 a x) : S = S' := Prod.ext (funext h1) (funext (fun a => funext (h2 a)))
theorem wr_s {n : Nat} (h : n < 16) : wr (n : Int) = n := wr_nat (by omega)
theorem m_partSize {Y : St} {a : Int} (ha : wr a = a) (h1 : ∀ t, t < 16 → wr (Y.2 19 t) = Y.2 19 t) : fX4_partSize Y a = some (((cn (fun t => Y.2 19 t = a) 16 : Nat) : Int), Y) := by
  refine loop_gen (fun f v t => fX4_partSize_l4 f a v (t : Int) Y) (fun t => ((cn (fun t => Y.2 19 t = a) t : Nat) : Int)) _ 0 16 (by decide) (by decide) (fun f => ?_) (fun f t _ ht => ?_)
  · simp only [fX4_partSize_l4, fX4_partSize_j34, wl_16, wr_nat (show 16 < 2147483648 by decide)]
    rw [if_pos (by decide)]
  · simp only [fX4_partSize_l4, fX4_partSize_j26, nm, wl_16, ha, wr_s ht, Int.toNat_natCast, bd_n ht, h1 t ht, up1, cn]
    rw [if_neg (by omega)]
    by_cases hc : Y.2 19 t = a
    · simp only [if_pos hc]
    · rw [if_neg hc, if_neg hc]; simp
theorem m_atPlace {Y : St} {q : Int} {t0 : Nat} (hq : wr q = q) (h1 : ∀ t, t < 16 → wr (Y.2 13 t) = Y.2 13 t ∧ wr (Y.2 18 t) = Y.2 18 t) (ht0 : t0 < 16) (hu : ∀ t, t < 16 → ((Y.2 13 t ≠ 0 ∧ Y.2 18 t = q) ↔ t = t0)) : fX4_atPlace Y q = some ((t0 : Int), Y) := by
  refine loop_gen (fun f v t => fX4_atPlace_l4 f q v (t : Int) Y) (fun t => if t0 < t then (t0 : Int) else -1) _ 0 16 (by decide) (by decide) (fun f => ?_) (fun f t _ ht => ?_)
  · simp only [fX4_atPlace_l4, fX4_atPlace_j41, wl_16, wr_nat (show 16 < 2147483648 by decide), ht0, ↓reduceIte]
    rw [if_pos (by decide)]
  · obtain ⟨e1, e2⟩ := h1 t ht
    have hut := hu t ht
    simp only [fX4_atPlace_l4, fX4_atPlace_j33, fX4_atPlace_j34, nm, wl_16, hq, wr_s ht, Int.toNat_natCast, bd_n ht, e1, e2, up1]
    rw [if_neg (by omega)]
    by_cases c1 : Y.2 13 t = 0
    · rw [if_pos c1]
      have hne : t ≠ t0 := fun e => (hut.mpr e).1 c1
      congr 1
      by_cases h : t0 < t
      · rw [if_pos h, if_pos (by omega)]
      · rw [if_neg h, if_neg (by omega)]
    · rw [if_neg c1]
      by_cases c2 : Y.2 18 t = q
      · have he := hut.mp ⟨c1, c2⟩
        rw [if_pos c2, if_pos (by omega), he]
      · rw [if_neg c2]
        have hne : t ≠ t0 := fun e => c2 (hut.mpr e).2
        congr 1
        by_cases h : t0 < t
        · rw [if_pos h, if_pos (by omega)]
        · rw [if_neg h, if_neg (by omega)]
def clrM (Y : St) (t : Nat) : St := (Y.1, fun a x => if a = 17 ∧ x < t then 0 else Y.2 a x)
theorem clrM_s (Y : St) (t : Nat) : setA (clrM Y t) 17 t 0 = clrM Y (t + 1) := by
  refine st_ext (fun _ => rfl) (fun a x => ?_)
  rw [sA2]
  unfold clrM
  simp only
  by_cases h1 : a = 17
  · subst h1
    by_cases h2 : x = t
    · subst h2; simp
    · rw [if_pos rfl, if_neg h2]
      by_cases h3 : x < t
      · rw [if_pos ⟨rfl, h3⟩, if_pos ⟨rfl, by omega⟩]
      · rw [if_neg (fun q => h3 q.2), if_neg (fun q => by omega)]
  · rw [if_neg h1, if_neg (fun q => h1 q.1), if_neg (fun q => h1 q.1)]
theorem m_clear {Y : St} : fX4_unmarked_l13 FU 0 Y = fX4_unmarked_j32 (clrM Y 16) := by
  have h0 : Y = clrM Y 0 := st_ext (fun _ => rfl) (fun a x => by unfold clrM; simp)
  rw [show fX4_unmarked_l13 FU 0 Y = fX4_unmarked_l13 FU 0 (clrM Y 0) by rw [← h0]]
  refine loop_gen (fun f v t => fX4_unmarked_l13 f (t : Int) v) (fun t => clrM Y t) _ 0 16 (by decide) (by decide) (fun f => ?_) (fun f t _ ht => ?_)
  · simp only [fX4_unmarked_l13, wl_16, wr_nat (show 16 < 2147483648 by decide)]
    rw [if_pos (by decide)]
  · simp only [fX4_unmarked_l13, nm, wl_16, wr_s ht, Int.toNat_natCast, bd_n ht, cb_0, up1, clrM_s]
    rw [if_neg (by omega)]
def bgL (Y : St) (t : Nat) : St := (Y.1, fun a x => if x < t then (if a = 13 ∨ a = 16 ∨ a = 17 ∨ a = 19 ∨ a = 21 then 0 else if a = 18 then -1 else Y.2 a x) else Y.2 a x)
theorem bgL_s (Y : St) (t : Nat) : setA (setA (setA (setA (setA (setA (bgL Y t) 13 t 0) 17 t 0) 19 t 0) 16 t 0) 21 t 0) 18 t (-1) = bgL Y (t + 1) := by
  refine st_ext (fun _ => rfl) (fun a x => ?_)
  simp only [sA2]
  unfold bgL
  simp only
  grind
def bgM (Y : St) (w k : Int) : St := bgL (setI (setI (setI (setI (setI (setI (setI Y 11 w) 12 k) 22 0) 23 0) 24 0) 25 0) 26 0) 16
theorem m_bgloop {Z : St} : fX4_begin_l37 FU 0 Z = some (bgL Z 16) := by
  have h0 : bgL Z 0 = Z := st_ext (fun _ => rfl) (fun a x => by unfold bgL; simp)
  have h := loop_gen (fun f v t => fX4_begin_l37 f (t : Int) v) (fun t => bgL Z t) (some (bgL Z 16)) 0 16 (by decide) (by decide) (fun f => by
    simp only [fX4_begin_l37, wl_16, wr_nat (show 16 < 2147483648 by decide)]
    rw [if_pos (by decide)]) (fun f t _ ht => by
    simp only [fX4_begin_l37, nm, wl_16, wr_s ht, Int.toNat_natCast, bd_n ht, cb_0, up1, bgL_s]
    rw [if_neg (by omega)])
  rw [h0] at h
  exact h
theorem m_begin {Y : St} {w k : Int} : fX4_begin Y w k = some (bgM Y w k) := by
  simp only [fX4_begin, nm]
  exact m_bgloop
/-! the next asking for a thing -/
def nxd (r : Nat → Nat) (x : Nat) : Nat → Nat → Nat
  | 0, j => j
  | d + 1, j => if r j = x then j else nxd r x d (j + 1)
theorem nxd_p (r : Nat → Nat) (x : Nat) : ∀ d j, j ≤ nxd r x d j ∧ nxd r x d j ≤ j + d ∧ (nxd r x d j < j + d → r (nxd r x d j) = x) ∧ ∀ u, j ≤ u → u < nxd r x d j → r u ≠ x := by
  intro d
  induction d with
  | zero => intro j; exact ⟨Nat.le_refl _, Nat.le_refl _, fun h => by unfold nxd at h; omega, fun u h1 h2 => by unfold nxd at h2; omega⟩
  | succ d ih =>
    intro j
    unfold nxd
    by_cases h : r j = x
    · rw [if_pos h]
      exact ⟨Nat.le_refl _, by omega, fun _ => h, fun u h1 h2 => by omega⟩
    · rw [if_neg h]
      obtain ⟨a, b, c, e⟩ := ih (j + 1)
      refine ⟨by omega, by omega, fun q => c (by omega), fun u h1 h2 => ?_⟩
      by_cases hu : u = j
      · subst hu; exact h
      · exact e u (by omega) h2
/-- where x is asked for next from j on; n if it isn't -/
def nx (r : Nat → Nat) (n x j : Nat) : Nat := nxd r x (n - j) j
theorem nx_p (r : Nat → Nat) (n x j : Nat) (h : j ≤ n) : j ≤ nx r n x j ∧ nx r n x j ≤ n ∧ (nx r n x j < n → r (nx r n x j) = x) ∧ ∀ u, j ≤ u → u < nx r n x j → r u ≠ x := by
  obtain ⟨a, b, c, d⟩ := nxd_p r x (n - j) j
  exact ⟨a, by unfold nx; omega, fun q => c (by unfold nx at q; omega), d⟩
theorem nx_uniq {r : Nat → Nat} {n x j v : Nat} (h : j ≤ v) (h2 : v ≤ n) (h3 : v < n → r v = x) (h4 : ∀ u, j ≤ u → u < v → r u ≠ x) : nx r n x j = v := by
  obtain ⟨a, b, c, d⟩ := nx_p r n x j (by omega)
  rcases Nat.lt_trichotomy (nx r n x j) v with q | q | q
  · exact absurd (c (by omega)) (h4 _ a q)
  · exact q
  · exact absurd (h3 (by omega)) (d v h q)
theorem m_askedNext {Y : St} {r : Nat → Nat} {n x i : Nat} (hn : Y.1 2 = (n : Int)) (hn3 : n ≤ 300) (hr : ∀ j, j < n → Y.2 1 j = (r j : Int) ∧ r j < 16) (hx : x < 16) (hi : i < n) : fX4_askedNext Y (x : Int) (i : Int) = some (((nx r n x (i + 1) : Nat) : Int), Y) := by
  have key : ∀ (d f j : Nat), j + d = n → d < f → fX4_askedNext_l4 f (x : Int) (j : Int) Y = some (((nxd r x d j : Nat) : Int), Y) := by
    intro d
    induction d with
    | zero =>
      intro f j hj hf
      obtain ⟨f, rfl⟩ : ∃ g, f = g + 1 := ⟨f - 1, by omega⟩
      simp only [fX4_askedNext_l4, fX4_askedNext_j28, hn, nxd, wr_nat (show n < 2147483648 by omega), wr_nat (show j < 2147483648 by omega)]
      rw [if_pos (by omega)]
    | succ d ih =>
      intro f j hj hf
      obtain ⟨f, rfl⟩ : ∃ g, f = g + 1 := ⟨f - 1, by omega⟩
      obtain ⟨e1, e2⟩ := hr j (by omega)
      simp only [fX4_askedNext_l4, fX4_askedNext_j28, nm, hn, nxd, wr_nat (show n < 2147483648 by omega), wr_nat (show j < 2147483648 by omega), Int.toNat_natCast, e1, wr_s e2, wr_s hx, bd_n (show j < 300 by omega), up1]
      rw [if_neg (by omega)]
      by_cases h : r j = x
      · rw [if_pos (by omega), if_pos h]
      · rw [if_neg (by omega), if_neg h]
        exact ih f (j + 1) (by omega) (by omega)
  simp only [fX4_askedNext, nm, up1]
  have h := key (n - (i + 1)) FU (i + 1) (by omega) (FU_gt (by omega))
  rw [h]
  rfl
theorem m_latestAhead {Y : St} {r : Nat → Nat} {n i : Nat} (hn : Y.1 2 = (n : Int)) (hn3 : n ≤ 300) (hr : ∀ j, j < n → Y.2 1 j = (r j : Int) ∧ r j < 16) (hi : i < n) (h1 : ∀ t, t < 16 → wr (Y.2 13 t) = Y.2 13 t) : fX4_latestAhead Y (i : Int) = some (amin (fun t => Y.2 13 t ≠ 0) (fun t u => nx r n u (i + 1) < nx r n t (i + 1)) 16, Y) := by
  refine scan_gen (fun f v t => fX4_latestAhead_l7 f (i : Int) v (if v < 0 then -1 else ((nx r n v.toNat (i + 1) : Nat) : Int)) (t : Int) Y) _ _ (fun v => some (v, Y)) (fun f v b1 b2 b3 => ?_) (fun f v t ht b1 b2 b3 => ?_)
  · simp only [fX4_latestAhead_l7, fX4_latestAhead_j65, wl_16, wr_nat (show 16 < 2147483648 by decide)]
    rw [if_pos (by decide)]
  · have p1 := (nx_p r n t (i + 1) (by omega)).2.1
    have hat : wr (if v < 0 then -1 else ((nx r n v.toNat (i + 1) : Nat) : Int)) = (if v < 0 then -1 else ((nx r n v.toNat (i + 1) : Nat) : Int)) := by
      have p2 := (nx_p r n v.toNat (i + 1) (by omega)).2.1
      split
      · exact wl_m1
      · exact wr_nat (by omega)
    simp only [fX4_latestAhead_l7, fX4_latestAhead_j59, fX4_latestAhead_j58, fX4_latestAhead_j45, nm, wl_16, wr_s ht, Int.toNat_natCast, bd_n ht, h1 t ht, up1, m_askedNext hn hn3 hr ht hi, cls_s, wr_nat (show nx r n t (i + 1) < 2147483648 by omega), hat]
    rw [if_neg (by omega)]
    by_cases hc : Y.2 13 t = 0
    · have hv' : (if Y.2 13 t ≠ 0 ∧ (v < 0 ∨ nx r n v.toNat (i + 1) < nx r n t (i + 1)) then (t : Int) else v) = v := if_neg (fun q => q.1 hc)
      rw [hv', if_pos hc]
    · rw [if_neg hc]
      by_cases hv : v < 0
      · have hv' : (if Y.2 13 t ≠ 0 ∧ (v < 0 ∨ nx r n v.toNat (i + 1) < nx r n t (i + 1)) then (t : Int) else v) = (t : Int) := if_pos ⟨hc, Or.inl hv⟩
        rw [hv']
        simp only [if_pos hv, Int.toNat_natCast]
        rw [if_neg (by omega), if_neg (by omega), if_neg (by omega)]
      · simp only [if_neg hv]
        by_cases hl : ((nx r n t (i + 1) : Nat) : Int) ≤ ((nx r n v.toNat (i + 1) : Nat) : Int)
        · have hv' : (if Y.2 13 t ≠ 0 ∧ (v < 0 ∨ nx r n v.toNat (i + 1) < nx r n t (i + 1)) then (t : Int) else v) = v := if_neg (by rintro ⟨-, q | q⟩ <;> omega)
          rw [hv', if_pos hl, if_pos hl, if_neg hv]
        · have hv' : (if Y.2 13 t ≠ 0 ∧ (v < 0 ∨ nx r n v.toNat (i + 1) < nx r n t (i + 1)) then (t : Int) else v) = (t : Int) := if_pos ⟨hc, Or.inr (by omega)⟩
          rw [hv', if_neg hl, if_neg hl, if_neg (by omega)]
          simp only [Int.toNat_natCast]
