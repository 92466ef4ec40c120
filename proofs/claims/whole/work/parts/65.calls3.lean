/-! claim, copy, fewest, ask -/
theorem call_claim {J R U V T M : St} {a : Int} (h : Rel (J, R, U, V, T) M) (ha : wr a = a) : CA (fX3_claim (J, R, U, V, T) a) (fX4_claim M a) := by
  obtain ⟨n, r, p, h1, ⟨m, x1, x2, x3, x4⟩, h3, h4⟩ := id h
  have x2 : J.1 8 = (m : Int) := x2
  have x4 : ∀ i, i < m → J.2 5 i = M.2 8 i ∧ -1 ≤ J.2 5 i ∧ J.2 5 i < 16 := x4
  have body : -1 ≤ a ∧ a < 16 → CA (fX3_claim_j14 a (J, R, U, V, T)) (if wr (M.1 9) = wr 300 then (some ((-2), M)) else (bd (M.1 9) 300 (nm (setA M 8 (Int.toNat (M.1 9)) a) fun Y2 => nm (setI Y2 9 ((Y2.1 9) + 1)) fun Y3 => some ((Y3.1 9), Y3)))) := by
    intro q
    unfold fX3_claim_j14
    rw [show (J, R, U, V, T).1.1 8 = (m : Int) from x2, x3, wr_nat (show m < 2147483648 by omega), wl_300]
    by_cases z : m < 300
    · rw [if_pos (by omega), if_neg (by omega), bd_n z, bd_n z, nm_q, nm_q, nm_q, nm_q, Int.toNat_natCast]
      refine ⟨((m + 1 : Nat) : Int), (setI (setA J 5 m a) 8 ((m + 1 : Nat) : Int), R, U, V, T), setI (setA M 8 m a) 9 ((m + 1 : Nat) : Int), ?_, ?_, n, r, p, h1, ⟨m + 1, by omega, rfl, rfl, fun i hi => ?_⟩, h3, h4⟩
      · have e : (setA J 5 m a).1 8 + 1 = ((m + 1 : Nat) : Int) := by show J.1 8 + 1 = _; rw [x2]; omega
        show some ((setI (setA J 5 m a) 8 ((setA J 5 m a).1 8 + 1)).1 8, (setI (setA J 5 m a) 8 ((setA J 5 m a).1 8 + 1), R, U, V, T)) = _
        rw [e]; rfl
      · have e : (setA M 8 m a).1 9 + 1 = ((m + 1 : Nat) : Int) := by show M.1 9 + 1 = _; rw [x3]; omega
        rw [e]; rfl
      · show (setA J 5 m a).2 5 i = (setA M 8 m a).2 8 i ∧ -1 ≤ (setA J 5 m a).2 5 i ∧ (setA J 5 m a).2 5 i < 16
        rw [sA2, sA2, if_pos rfl, if_pos rfl]
        by_cases y : i = m
        · rw [if_pos y, if_pos y]; omega
        · rw [if_neg y, if_neg y]; exact x4 i (by omega)
    · rw [if_neg (by omega), if_pos (by omega)]
      exact ⟨-2, _, _, rfl, rfl, h⟩
  unfold fX3_claim fX4_claim
  rw [m_in ha wl_m1 (wr_id (by omega)), clp_s, ha, wl_m1]
  by_cases q1 : a = -1
  · rw [if_pos q1, if_pos (show -1 ≤ a ∧ a ≤ 15 by omega), if_neg w1]
    exact body (by omega)
  · rw [if_neg q1, e_isThing ha, clp_s]
    by_cases q : 0 ≤ a ∧ a < 16
    · rw [if_pos q, if_pos (show -1 ≤ a ∧ a ≤ 15 by omega), if_neg w1, if_neg w1]
      exact body (by omega)
    · rw [if_neg q, if_neg (show ¬ (-1 ≤ a ∧ a ≤ 15) by omega), if_pos wl_0, if_pos wl_0]
      exact ⟨-1, _, _, rfl, rfl, h⟩
def cpM (M : St) (s : Nat) : St := (M.1, fun a x => if a = 8 ∧ x < s then M.2 7 x else M.2 a x)
theorem m_copy {M : St} {n : Nat} (hn : M.1 2 = (n : Int)) (hn3 : n ≤ 300) : ∀ (d s f : Nat), s + d = n → d < f → fX4_copy_l20 f (s : Int) (cpM M s) = some (M.1 9, cpM M n) := by
  intro d
  induction d with
  | zero =>
    intro s f hs hf
    obtain ⟨f', rfl⟩ : ∃ f', f = f' + 1 := ⟨f - 1, by omega⟩
    have hsn : s = n := by omega
    subst hsn
    have e : wr ((cpM M s).1 2) ≤ wr (s : Int) := by show wr (M.1 2) ≤ _; rw [hn]; exact Int.le_refl _
    unfold fX4_copy_l20
    rw [if_pos e]
    rfl
  | succ d ih =>
    intro s f hs hf
    obtain ⟨f', rfl⟩ : ∃ f', f = f' + 1 := ⟨f - 1, by omega⟩
    have e : ¬ wr ((cpM M s).1 2) ≤ wr (s : Int) := by show ¬ wr (M.1 2) ≤ _; rw [hn, wr_nat (by omega), wr_nat (by omega)]; omega
    have hs3 : s < 300 := by omega
    have es : setA (cpM M s) 8 s ((cpM M s).2 7 s) = cpM M (s + 1) := by
      refine st_ext (fun _ => rfl) (fun a x => ?_)
      rw [sA2]
      unfold cpM
      simp only
      grind
    unfold fX4_copy_l20
    rw [if_neg e, bd_n hs3, bd_n hs3, Int.toNat_natCast, es, nm_q, nm_q, up1]
    exact ih (s + 1) f' (by omega) (by omega)
theorem call_copy {J R U V T M : St} (h : Rel (J, R, U, V, T) M) : CA (fX3_copy (J, R, U, V, T)) (fX4_copy M) := by
  obtain ⟨n, r, p, h1, h2, h3, h4⟩ := id h
  have hn3 := h1.2.2.1
  have h14 : R.1 4 = (n : Int) := h1.1
  unfold fX3_copy fX4_copy
  rcases h3 with ⟨x, y⟩ | ⟨x, y, z, u, w, k, s, v1, v2, v3⟩
  · rw [show (J, R, U, V, T).1.1 11 = 0 from x, y, if_pos wl_0, if_pos wl_0]
    exact ⟨-3, _, _, rfl, rfl, h⟩
  · rw [show (J, R, U, V, T).1.1 11 = 1 from x, y, if_neg w1, if_neg w1, show (J, R, U, V, T).2.1.1 4 = (n : Int) from h14, bd_n (show n < 301 by omega), nm_q, nm_q, nm_q, nm_q, h1.2.1]
    have e0 : cpM (setI M 9 (n : Int)) 0 = setI M 9 (n : Int) := st_ext (fun _ => rfl) (fun a x => by unfold cpM; simp)
    have hc := m_copy (M := setI M 9 (n : Int)) (n := n) h1.2.1 hn3 n 0 FU (by omega) (FU_gt (by omega))
    rw [e0] at hc
    refine ⟨(n : Int), (setI (setR J 5 (fun j => if j < n then J.2 7 j else J.2 5 j)) 8 (n : Int), R, U, V, T), _, ?_, hc, n, r, p, ?_, ⟨n, hn3, rfl, rfl, fun i hi => ?_⟩, Or.inr ⟨x, y, z, fun i hi => u i hi, w, k, s, v1, v2, v3⟩, h4⟩
    · show some (R.1 4, (setI (setR J 5 (fun j => if j < Int.toNat (n : Int) then J.2 7 j else J.2 5 j)) 8 (R.1 4), R, U, V, T)) = _
      rw [h14, Int.toNat_natCast]
    · exact ⟨h1.1, h1.2.1, hn3, h1.2.2.2.1, h1.2.2.2.2⟩
    · show (if i < n then J.2 7 i else J.2 5 i) = (if 8 = 8 ∧ i < n then M.2 7 i else M.2 8 i) ∧ -1 ≤ (if i < n then J.2 7 i else J.2 5 i) ∧ (if i < n then J.2 7 i else J.2 5 i) < 16
      rw [if_pos hi, if_pos ⟨rfl, hi⟩, (u i hi).2]
      exact ⟨rfl, (z.1 i hi).2⟩
/-- fewest -/
theorem few_loop {J U T : St} {n : Nat} {r p : Nat → Nat} {k : Nat} (hk : 1 ≤ k ∧ k ≤ 8) : ∀ (d w b c f f2 : Nat) (R V M : St), RelA J R U T M n r p → w + d = 8 → b < 8 → c ≤ n → d < f → d < f2 → CA (fX3_fewest_l24 f (k : Int) (b : Int) (c : Int) (w : Int) (J, R, U, V, T)) (fX4_fewest_l24 f2 (k : Int) (b : Int) (c : Int) (w : Int) M) := by
  intro d
  induction d with
  | zero =>
    intro w b c f f2 R V M h hw hb hc hf hf2
    obtain ⟨f', rfl⟩ : ∃ f', f = f' + 1 := ⟨f - 1, by omega⟩
    obtain ⟨f2', rfl⟩ : ∃ f', f2 = f' + 1 := ⟨f2 - 1, by omega⟩
    have e : wr 8 ≤ wr (w : Int) := by rw [wl_8, wr_nat (by omega)]; omega
    unfold fX3_fewest_l24 fX4_fewest_l24
    rw [if_pos e, if_pos e]
    exact ⟨(b : Int), _, _, rfl, rfl, n, r, p, h⟩
  | succ d ih =>
    intro w b c f f2 R V M h hw hb hc hf hf2
    have hn3 := h.1.2.2.1
    obtain ⟨f', rfl⟩ : ∃ f', f = f' + 1 := ⟨f - 1, by omega⟩
    obtain ⟨f2', rfl⟩ : ∃ f', f2 = f' + 1 := ⟨f2 - 1, by omega⟩
    have e : ¬ wr 8 ≤ wr (w : Int) := by rw [wl_8, wr_nat (by omega)]; omega
    obtain ⟨V', M', c', s1, s2, s3, s4⟩ := misses_rel (S := V) h.1 (show w ≤ 8 by omega) hk
    have h' : RelA J (bgR R r n w) U T M' n r p := RelA_fr (RelA_row h (bgR_w R r n w) (fun q => bgR_n (Or.inr q))) s3
    unfold fX3_fewest_l24 fX4_fewest_l24
    rw [if_neg e, if_neg e, s2, show fX2_missesBy ((J, R, U, V, T).2.2.2.1, (J, R, U, V, T).2.1) (w : Int) (k : Int) = some ((c' : Int), (V', bgR R r n w)) from s1, cls_s, cls_s]
    simp only [nm_q]
    by_cases q : c ≤ c'
    · have e2 : wr (c : Int) ≤ wr (c' : Int) := by rw [wr_nat (by omega), wr_nat (by omega)]; omega
      rw [if_pos e2, if_pos e2]
      unfold fX3_fewest_j55 fX4_fewest_j52
      simp only [nm_q]
      rw [if_pos e2]
      unfold fX4_fewest_j65
      simp only [nm_q, up1]
      exact ih (w + 1) b c f' f2' _ V' M' h' (by omega) hb hc (by omega) (by omega)
    · have e2 : ¬ wr (c : Int) ≤ wr (c' : Int) := by rw [wr_nat (by omega), wr_nat (by omega)]; omega
      rw [if_neg e2, if_neg e2]
      unfold fX3_fewest_j55 fX4_fewest_j52
      simp only [nm_q]
      rw [if_neg e2]
      unfold fX4_fewest_j65
      simp only [nm_q, up1]
      exact ih (w + 1) w c' f' f2' _ V' M' h' (by omega) (by omega) s4 (by omega) (by omega)
theorem call_fewest {J R U V T M : St} {a : Int} (h : Rel (J, R, U, V, T) M) (ha : wr a = a) : CA (fX3_fewest (J, R, U, V, T) a) (fX4_fewest M a) := by
  obtain ⟨n, r, p, hA⟩ := id h
  unfold fX3_fewest fX4_fewest
  rw [e_isPlaces ha, m_in ha wl_1 wl_8, clp_s, clp_s]
  by_cases q : 1 ≤ a ∧ a ≤ 8
  · obtain ⟨k, rfl⟩ := nat_of (show 0 ≤ a by omega)
    rw [if_pos q, if_neg w1, if_neg w1, nm_q, nm_q]
    obtain ⟨V', M', c', s1, s2, s3, s4⟩ := misses_rel (S := V) (w := 0) (k := k) hA.1 (by omega) (by omega)
    rw [show fX4_missesOf M 0 (k : Int) = some ((c' : Int), M') from s2, show fX2_missesBy ((J, R, U, V, T).2.2.2.1, (J, R, U, V, T).2.1) 0 (k : Int) = some ((c' : Int), (V', bgR R r n 0)) from s1, cls_s, cls_s, nm_q, nm_q, nm_q, nm_q]
    have h' : RelA J (bgR R r n 0) U T M' n r p := RelA_fr (RelA_row hA (bgR_w R r n 0) (fun q => bgR_n (Or.inr q))) s3
    exact few_loop (by omega) 7 1 0 c' FU FU _ V' M' h' (by omega) (by omega) s4 (FU_gt (by omega)) (FU_gt (by omega))
  · rw [if_neg q, if_pos wl_0, if_pos wl_0]
    exact ⟨-1, _, _, rfl, rfl, h⟩
