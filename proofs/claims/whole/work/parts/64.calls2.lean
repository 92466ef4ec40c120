/-! paid, serve, fewest, claims, what is told -/
theorem m_paid {M : St} {n : Nat} {r p : Nat → Nat} {J R : St} (h : RR R M n r p) (hJ : JV J r p n) (u : ∀ i, i < n → M.2 6 i = J.2 6 i ∧ M.2 7 i = J.2 7 i) (h3 : M.1 3 = 1) : fX4_paid M = some (J.1 10, M) := by
  have hn3 := h.2.2.1
  have key : ∀ (d s f : Nat), s + d = n → d < f → fX4_paid_l14 f (sm (fun i => if J.2 6 i = 1 then 0 else (p (r i) : Int)) s) (s : Int) M = some (J.1 10, M) := by
    intro d
    induction d with
    | zero =>
      intro s f hs hf
      obtain ⟨f', rfl⟩ : ∃ f', f = f' + 1 := ⟨f - 1, by omega⟩
      have hsn : s = n := by omega
      subst hsn
      have e : wr (M.1 2) ≤ wr (s : Int) := by rw [h.2.1]; exact Int.le_refl _
      unfold fX4_paid_l14
      rw [if_pos e, ← hJ.2.2]
      rfl
    | succ d ih =>
      intro s f hs hf
      obtain ⟨f', rfl⟩ : ∃ f', f = f' + 1 := ⟨f - 1, by omega⟩
      have hs2 : s < 300 := by omega
      have e : ¬ wr (M.1 2) ≤ wr (s : Int) := by rw [h.2.1, wr_nat (by omega), wr_nat (by omega)]; omega
      obtain ⟨hx, -, hx2⟩ := h.2.2.2.1 s (by omega)
      obtain ⟨-, -, -, hp⟩ := h.2.2.2.2 (r s) hx
      have e6 := (u s (by omega)).1
      have hv := (hJ.1 s (by omega)).1
      have hi := ih (s + 1) f' (by omega) (by omega)
      unfold fX4_paid_l14
      rw [if_neg e, bd_n hs2, Int.toNat_natCast, e6]
      unfold fX4_paid_j48
      rcases hv with q | q
      · have z : ¬ wr (J.2 6 s) = wr 1 := by rw [q, wl_0, wl_1]; decide
        rw [if_neg z, bd_n hs2, hx2, bd_n hx, Int.toNat_natCast, hp, nm_q, nm_q, up1]
        rw [← hi]
        congr 1
        show _ = sm _ s + (if J.2 6 s = 1 then 0 else (p (r s) : Int))
        rw [if_neg (by rw [q]; decide)]
      · have z : wr (J.2 6 s) = wr 1 := by rw [q]
        rw [if_pos z, nm_q, nm_q, up1]
        rw [← hi]
        congr 1
        show _ = sm _ s + (if J.2 6 s = 1 then 0 else (p (r s) : Int))
        rw [if_pos q]
  unfold fX4_paid
  rw [h3, if_neg w1, nm_q, nm_q]
  exact key n 0 FU (by omega) (FU_gt (by omega))
theorem call_paid {J R U V T M : St} (h : Rel (J, R, U, V, T) M) : CA (fX3_paid (J, R, U, V, T)) (fX4_paid M) := by
  obtain ⟨n, r, p, h1, h2, h3, h4⟩ := id h
  rcases h3 with ⟨x, y⟩ | ⟨x, y, z, u, -⟩
  · unfold fX3_paid fX4_paid
    rw [show (J, R, U, V, T).1.1 11 = 0 from x, y, if_pos wl_0, if_pos wl_0]
    exact ⟨-3, _, _, rfl, rfl, h⟩
  · rw [m_paid h1 z u y]
    unfold fX3_paid
    rw [show (J, R, U, V, T).1.1 11 = 1 from x, if_neg w1]
    exact ⟨J.1 10, _, _, rfl, rfl, h⟩
theorem call_serve {J R U V T M : St} {a b : Int} (h : Rel (J, R, U, V, T) M) (ha : wr a = a) (hb : wr b = b) : CA (fX3_serve (J, R, U, V, T) a b) (fX4_serve M a b) := by
  obtain ⟨n, r, p, h1, h2, h3, h4⟩ := id h
  have hn3 := h1.2.2.1
  unfold fX3_serve fX4_serve
  rw [e_isWay ha, m_in ha wl_0 wl_8, clp_s, clp_s]
  by_cases q : 0 ≤ a ∧ a ≤ 8
  · rw [if_pos q, if_neg w1, if_neg w1, e_isPlaces hb, m_in hb wl_1 wl_8, clp_s, clp_s]
    by_cases q2 : 1 ≤ b ∧ b ≤ 8
    · rw [if_pos q2, if_neg w1, if_neg w1]
      obtain ⟨w, rfl⟩ := nat_of q.1
      obtain ⟨k, rfl⟩ := nat_of (show 0 ≤ b by omega)
      have hb1 := beg_rel (S := U) h1 (show w ≤ 8 by omega) (show 1 ≤ k ∧ k ≤ 8 by omega)
      have hat := at_beg (S := U) (R := R) (n := n) (r := r) (p := p) (show w ≤ 8 by omega) (show 1 ≤ k ∧ k ≤ 8 by omega) M h1
      obtain ⟨J', U', M', t1, t2, t3, t4, t5, t6, t7, t8, t9, t10, t11⟩ := ser_loop (V := V) (T := T) n (setI (setI J 9 0) 10 0) (bgS U w k) (bgM M w k) 0 0 FU FU hb1.1 hat ⟨fun i hi => by omega, rfl, rfl⟩ (fun i hi => by omega) (by omega) (FU_gt (by omega)) (FU_gt (by omega))
      rw [show fX2_begin ((J, R, U, V, T).2.2.1, (J, R, U, V, T).2.1) (w : Int) (k : Int) = some (bgS U w k, bgR R r n w) from c_begin h1 (by omega), m_begin, clv_s, clv_s, nm_q, nm_q, nm_q, nm_q, nm_q]
      have hFV : FV M M' := FV_tr (FV_of hb1.2) t10
      refine ⟨J'.1 9, _, M', t1, t2, n, r, p, RR_fv (RR_row h1 (bgR_w R r n w)) hFV, ?_, Or.inr ⟨t3, t7, t4, t6, w, k, n, t8, t9, t5⟩, TBL_row h4 (bgR_w R r n w)⟩
      obtain ⟨m, x1, x2, x3, x4⟩ := h2
      refine ⟨m, x1, ?_, ?_, fun i hi => ?_⟩
      · rw [t11.1 8 (by decide) (by decide) (by decide)]; exact x2
      · rw [hFV.1 9 (by decide) (by decide) (by decide) (by decide)]; exact x3
      · rw [hFV.2 8 i (by decide) (by decide) (by decide), t11.2 5 (by decide) (by decide)]; exact x4 i hi
    · rw [if_neg q2, if_pos wl_0, if_pos wl_0]
      exact ⟨-1, _, _, rfl, rfl, h⟩
  · rw [if_neg q, if_pos wl_0, if_pos wl_0]
    exact ⟨-1, _, _, rfl, rfl, h⟩
theorem call_unclaim {J R U V T M : St} (h : Rel (J, R, U, V, T) M) : CA (fX3_unclaim (J, R, U, V, T)) (fX4_unclaim M) := by
  obtain ⟨n, r, p, h1, ⟨m, x1, x2, x3, x4⟩, h3, h4⟩ := id h
  unfold fX3_unclaim fX4_unclaim
  refine ⟨(m : Int), (setI J 8 0, R, U, V, T), setI M 9 0, ?_, ?_, n, r, p, h1, ⟨0, by omega, rfl, rfl, fun i hi => by omega⟩, h3, h4⟩
  · rw [nm_q, nm_q]; show some (J.1 8, _) = _; rw [show J.1 8 = (m : Int) from x2]
  · rw [nm_q, nm_q]; show some (M.1 9, _) = _; rw [x3]
