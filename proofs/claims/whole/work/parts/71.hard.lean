/-! hard -/
theorem SH_grow {S R M R' M' : St} {n : Nat} {r r' p : Nat → Nat} {w k i ly : Nat} {occ : Nat → Prop} (h : SH S R M n r p w k i ly occ) (h8 : w ≠ 8) (hR : RR R' M' (n + 1) r' p) (hF : FA M M') : SH S R' M' (n + 1) r' p w k i ly occ := by
  obtain ⟨-, hb, hsc, hmk, hC, hT, hP, hN⟩ := h
  refine ⟨hR, ⟨hb.1, hb.2.1, hb.2.2.1, by omega, hb.2.2.2.2⟩, ?_, ?_, hC, fun t ht => ?_, ?_, fun q => absurd q h8⟩
  · unfold SC at hsc ⊢
    rw [hF.1 11 (by decide), hF.1 12 (by decide), hF.1 22 (by decide), hF.1 23 (by decide), hF.1 24 (by decide), hF.1 25 (by decide), hF.1 26 (by decide)]; exact hsc
  · unfold MK at hmk ⊢; rw [hF.2 17 (by decide), hF.2 13 (by decide)]; exact hmk
  · obtain ⟨a1, a2, a3, a4, a5, a6, a7, a8, a9⟩ := hT t ht
    unfold TH
    rw [hF.2 13 (by decide), hF.2 14 (by decide), hF.2 15 (by decide), hF.2 16 (by decide), hF.2 18 (by decide), hF.2 19 (by decide), hF.2 20 (by decide), hF.2 21 (by decide)]
    exact ⟨a1, a2, a3, a4, a5, a6, a7, a8, fun q => absurd q h8⟩
  · unfold PL at hP ⊢; rw [hF.2 13 (by decide), hF.2 18 (by decide)]; exact hP
/-- the least thing that isn't there -/
theorem absent {S R M : St} {n : Nat} {r p : Nat → Nat} {w k i ly : Nat} {occ : Nat → Prop} (h : SH S R M n r p w k i ly occ) : ∃ x : Nat, x ≤ k ∧ M.2 13 x = 0 ∧ fX2_leastAbsent (S, R) = some ((x : Int), (S, R)) ∧ ∀ (K : Int → Int → St → Option (Int × St)) (v3 v4 : Int), fX4_hard_l70 K FU v3 v4 0 M = fX4_hard_j86 K v3 v4 (x : Int) M := by
  have hcn := sh_cn h
  obtain ⟨hR, hb, hsc, hmk, hC, hT, hP, hN⟩ := h
  have c3 := hsc.2.2.1
  -- the least t ≤ k that does not lie
  have hex : ∀ m, m ≤ 16 → (∀ t, t < m → M.2 13 t = 1) → m ≤ ly := by
    intro m hm hall
    have h1 : cn (fun t => M.2 13 t = 1) m = m := by
      clear hm
      induction m with
      | zero => rfl
      | succ m ih =>
        show cn (fun t => M.2 13 t = 1) m + (if M.2 13 m = 1 then 1 else 0) = m + 1
        rw [ih (fun t ht => hall t (by omega)), if_pos (hall m (by omega))]
    have h2 : ∀ d, m + d ≤ 16 → cn (fun t => M.2 13 t = 1) m ≤ cn (fun t => M.2 13 t = 1) (m + d) := by
      intro d
      induction d with
      | zero => intro _; exact Nat.le_refl _
      | succ d ih =>
        intro hd
        refine Nat.le_trans (ih (by omega)) ?_
        show cn (fun t => M.2 13 t = 1) (m + d) ≤ cn (fun t => M.2 13 t = 1) (m + d) + _
        omega
    have h3 := h2 (16 - m) (by omega)
    rw [show m + (16 - m) = 16 by omega, hcn, h1] at h3
    exact h3
  have key : ∀ (d t f f2 : Nat), t + d = k → (∀ u, u < t → M.2 13 u = 1) → d < f → d < f2 → ∃ x : Nat, x ≤ k ∧ M.2 13 x = 0 ∧ fX2_leastAbsent_l2 f (t : Int) (S, R) = some ((x : Int), (S, R)) ∧ ∀ (K : Int → Int → St → Option (Int × St)) (v3 v4 : Int), fX4_hard_l70 K f2 v3 v4 (t : Int) M = fX4_hard_j86 K v3 v4 (x : Int) M := by
    intro d
    induction d with
    | zero =>
      intro t f f2 hs hall hf hf2
      obtain ⟨f', rfl⟩ : ∃ f', f = f' + 1 := ⟨f - 1, by omega⟩
      obtain ⟨f2', rfl⟩ : ∃ f', f2 = f' + 1 := ⟨f2 - 1, by omega⟩
      have hz : M.2 13 t = 0 := by
        rcases (TH_r (hT t (by omega))).2.2.2 with z | z
        · exact z
        · have := hex (t + 1) (by omega) (fun u hu => by
            by_cases y : u = t
            · rw [y]; exact z
            · exact hall u (by omega))
          omega
      have e : wr (S.1 10) ≤ wr (t : Int) := by rw [c3, wr_nat (by omega), wr_nat (by omega)]; omega
      refine ⟨t, by omega, hz, ?_, fun K v3 v4 => ?_⟩
      · unfold fX2_leastAbsent_l2
        rw [if_pos e]
        rfl
      · unfold fX4_hard_l70
        rw [bd_n (show t < 16 by omega), Int.toNat_natCast, hz, if_pos wl_0]
    | succ d ih =>
      intro t f f2 hs hall hf hf2
      obtain ⟨f', rfl⟩ : ∃ f', f = f' + 1 := ⟨f - 1, by omega⟩
      obtain ⟨f2', rfl⟩ : ∃ f', f2 = f' + 1 := ⟨f2 - 1, by omega⟩
      have ht : t < 16 := by omega
      have e : ¬ wr (S.1 10) ≤ wr (t : Int) := by rw [c3, wr_nat (by omega), wr_nat (by omega)]; omega
      have hlies := c_lies (S := S) (R := R) ht (TH_r (hT t ht)).1.1
      have a1 := (hT t ht).1
      rcases (TH_r (hT t ht)).2.2.2 with z | z
      · refine ⟨t, by omega, z, ?_, fun K v3 v4 => ?_⟩
        · unfold fX2_leastAbsent_l2
          rw [if_neg e, hlies, if_neg (show ¬ (S.2 1 t = 1 ∨ S.2 1 t = 2) by omega), cls_s, if_pos wl_0]
          rfl
        · unfold fX4_hard_l70
          rw [bd_n ht, Int.toNat_natCast, z, if_pos wl_0]
      · obtain ⟨x, x1, x2, x3, x4⟩ := ih (t + 1) f' f2' (by omega) (fun u hu => by
          by_cases y : u = t
          · rw [y]; exact z
          · exact hall u (by omega)) (by omega) (by omega)
        refine ⟨x, x1, x2, ?_, fun K v3 v4 => ?_⟩
        · unfold fX2_leastAbsent_l2
          rw [if_neg e, hlies, if_pos (show S.2 1 t = 1 ∨ S.2 1 t = 2 by omega), cls_s, if_neg w1, nm_q, up1]
          exact x3
        · unfold fX4_hard_l70
          rw [bd_n ht, Int.toNat_natCast, z, if_neg w1, nm_q, up1]
          exact x4 K v3 v4
  have hk8 := hb.2.2.1
  obtain ⟨x, x1, x2, x3, x4⟩ := key k 0 FU FU (by omega) (fun u hu => by omega) (FU_gt (by omega)) (FU_gt (by omega))
  exact ⟨x, x1, x2, by unfold fX2_leastAbsent; rw [nm_q]; exact x3, x4⟩
theorem hard_loop {J U T : St} {p : Nat → Nat} {w k m : Nat} (hm : m ≤ 300) (h8 : w ≠ 8) : ∀ (d s f f2 ly : Nat) (r : Nat → Nat) (R V M : St), SH V R M s r p w k s ly (fun q => q < ly) → TOLD J M → M.1 3 = 0 → s + d = m → d < f → d < f2 → CA (fX3_hard_l56 f (m : Int) (s : Int) (J, R, U, V, T)) (fX4_hard_l61 f2 (m : Int) (s : Int) M) := by
  intro d
  induction d with
  | zero =>
    intro s f f2 ly r R V M h hT h3 hs hf hf2
    obtain ⟨f', rfl⟩ : ∃ f', f = f' + 1 := ⟨f - 1, by omega⟩
    obtain ⟨f2', rfl⟩ : ∃ f', f2 = f' + 1 := ⟨f2 - 1, by omega⟩
    have e : wr (m : Int) ≤ wr (s : Int) := by rw [wr_nat (by omega), wr_nat (by omega)]; omega
    unfold fX3_hard_l56 fX4_hard_l61
    rw [if_pos e, if_pos e]
    unfold fX3_hard_j90 fX4_hard_j104
    rw [c_forget, clv_s]
    exact ⟨(m : Int), _, _, rfl, rfl, Rel_forget (V := V) (U := U) (T := T) h.1 hT h3⟩
  | succ d ih =>
    intro s f f2 ly r R V M h hT h3 hs hf hf2
    obtain ⟨f', rfl⟩ : ∃ f', f = f' + 1 := ⟨f - 1, by omega⟩
    obtain ⟨f2', rfl⟩ : ∃ f', f2 = f' + 1 := ⟨f2 - 1, by omega⟩
    have e : ¬ wr (m : Int) ≤ wr (s : Int) := by rw [wr_nat (by omega), wr_nat (by omega)]; omega
    have hk8 := h.2.1.2.2.1
    obtain ⟨x, x1, x2, x3, x4⟩ := absent h
    obtain ⟨R', M', t1, t2, t3, t4⟩ := add_rel h.1 (show s < 300 by omega) (show x < 16 by omega)
    obtain ⟨V', M2, g, ly', s1, s2, s3, s4, s5, s6, s7, s8, s9⟩ := step_rel (SH_grow h h8 t3 t4) (show s < s + 1 by omega)
    have hT2 : TOLD J M2 := by
      obtain ⟨mm, a, b, c, dd⟩ := TOLD_fa hT t4
      exact ⟨mm, a, b, (s9.1 9 (by decide)).trans c, fun i hi => by rw [s9.2 8 i (by decide)]; exact dd i hi⟩
    have hi := ih (s + 1) f' f2' ly' _ R' V' M2 s3 hT2 ((s9.1 3 (by decide)).trans ((t4.1 3 (by decide)).trans h3)) (by omega) (by omega) (by omega)
    unfold fX3_hard_l56 fX4_hard_l61
    rw [if_neg e, if_neg e, show fX2_leastAbsent ((J, R, U, V, T).2.2.2.1, (J, R, U, V, T).2.1) = _ from x3, cls_s, show fX1_append R (x : Int) = _ from t1, clv_s, show fX2_step (V, R') = _ from s1, cls_s, nm_q, nm_q, x4]
    unfold fX4_hard_j86
    rw [t2, clv_s, s2, clv_s, nm_q, up1]
    exact hi
theorem call_hard {J R U V T M : St} {a b c : Int} (h : Rel (J, R, U, V, T) M) (ha : wr a = a) (hb : wr b = b) (hc : wr c = c) : CA (fX3_hard (J, R, U, V, T) a b c) (fX4_hard M a b c) := by
  obtain ⟨n, r, p, h1, h2, h3, h4⟩ := id h
  unfold fX3_hard fX4_hard
  rw [e_isWay ha, m_in ha wl_0 wl_8, clp_s, clp_s]
  by_cases q : 0 ≤ a ∧ a ≤ 8
  · rw [if_pos q, if_neg w1, if_neg w1, e_isPlaces hb, m_in hb wl_1 wl_8, clp_s, clp_s]
    by_cases q2 : 1 ≤ b ∧ b ≤ 8
    · rw [if_pos q2, if_neg w1, if_neg w1, m_in hc wl_0 wl_300, clp_s]
      by_cases q3 : 0 ≤ c ∧ c ≤ 300
      · have n1 : ¬ wr c < 0 := by rw [hc]; omega
        have n2 : wr c ≤ wr 300 := by rw [hc, wl_300]; omega
        rw [if_pos q3, if_neg w1, if_neg n1, if_pos n2]
        obtain ⟨w, rfl⟩ := nat_of q.1
        obtain ⟨k, rfl⟩ := nat_of (show 0 ≤ b by omega)
        obtain ⟨m, rfl⟩ := nat_of q3.1
        by_cases q4 : w = 8
        · have e : wr (w : Int) = wr 8 := by rw [q4]; rfl
          rw [if_pos e, if_pos e]
          exact ⟨-4, _, _, rfl, rfl, h⟩
        · have e : ¬ wr (w : Int) = wr 8 := by rw [wr_nat (by omega), wl_8]; omega
          rw [if_neg e, if_neg e]
          simp only [nm_q, cb_0]
          have hRR : RR (setI R 4 0) (setI (setI M 2 0) 3 0) 0 r p := ⟨rfl, rfl, by omega, fun i hi => by omega, h1.2.2.2.2⟩
          have hb1 := beg_rel (S := V) hRR (show w ≤ 8 by omega) (show 1 ≤ k ∧ k ≤ 8 by omega)
          rw [m_begin, clv_s, c_begin (S := V) (R := setI R 4 0) (k := k) hRR (show w ≤ 8 by omega), clv_s]
          obtain ⟨mm, x1, x2, x3, x4⟩ := h2
          have hF := hb1.2
          exact hard_loop (by omega) q4 m 0 FU FU 0 r (bgR (setI R 4 0) r 0 w) (bgS V w k) _ hb1.1 ⟨mm, x1, x2, (hF.1 9 (by decide)).trans x3, fun i hi => by rw [hF.2 8 i (by decide)]; exact x4 i hi⟩ ((hF.1 3 (by decide)).trans rfl) (by omega) (FU_gt (by omega)) (FU_gt (by omega))
      · rw [if_neg q3, if_pos wl_0]
        refine ⟨-1, _, _, ?_, rfl, h⟩
        by_cases z : c < 0
        · have n1 : wr c < 0 := by rw [hc]; exact z
          rw [if_pos n1]; rfl
        · have n1 : ¬ wr c < 0 := by rw [hc]; exact z
          have n2 : ¬ wr c ≤ wr 300 := by rw [hc, wl_300]; omega
          rw [if_neg n1, if_neg n2]; rfl
    · rw [if_neg q2, if_pos wl_0, if_pos wl_0]
      exact ⟨-1, _, _, rfl, rfl, h⟩
  · rw [if_neg q, if_pos wl_0, if_pos wl_0]
    exact ⟨-1, _, _, rfl, rfl, h⟩
