/-! ask and draw: the row grows -/
def FA (M M' : St) : Prop := (∀ j, j ≠ 2 → M'.1 j = M.1 j) ∧ (∀ a, a ≠ 1 → M'.2 a = M.2 a)
theorem add_rel {R M : St} {n x : Nat} {r p : Nat → Nat} (h : RR R M n r p) (hn : n < 300) (hx : x < 16) : ∃ R' M', fX1_append R (x : Int) = some R' ∧ fX4_add M (x : Int) = some M' ∧ RR R' M' (n + 1) (fun t => if t = n then x else r t) p ∧ FA M M' := by
  obtain ⟨h1, h2, h3, h4, h5⟩ := h
  refine ⟨setI (setA R 0 n (x : Int)) 4 ((n + 1 : Nat) : Int), setI (setA M 1 n (x : Int)) 2 ((n + 1 : Nat) : Int), ?_, ?_, ⟨rfl, rfl, by omega, fun t ht => ?_, h5⟩, ⟨fun j hj => by rw [sI1, if_neg hj]; rfl, fun a ha => funext fun t => by rw [sI2, sA2, if_neg ha]⟩⟩
  · unfold fX1_append
    have e : ¬ wr 300 ≤ wr (R.1 4) := by rw [h1, wl_300, wr_nat (by omega)]; omega
    rw [if_neg e, h1, bd_n hn, nm_q, nm_q, Int.toNat_natCast]
    unfold fX1_append_j30
    rw [show (setA R 0 n (x : Int)).1 4 = (n : Int) from h1, up1]
  · unfold fX4_add
    rw [h2, bd_n hn, nm_q, nm_q, Int.toNat_natCast, show (setA M 1 n (x : Int)).1 2 = (n : Int) from h2, up1]
  · show (if t = n then x else r t) < 16 ∧ (setA R 0 n (x : Int)).2 0 t = (((if t = n then x else r t) : Nat) : Int) ∧ (setA M 1 n (x : Int)).2 1 t = (((if t = n then x else r t) : Nat) : Int)
    rw [sA2, sA2, if_pos rfl, if_pos rfl]
    by_cases z : t = n
    · rw [if_pos z, if_pos z, if_pos z]; exact ⟨hx, rfl, rfl⟩
    · rw [if_neg z, if_neg z, if_neg z]; exact h4 t (by omega)
theorem TOLD_fa {J M M' : St} (h : TOLD J M) (g : FA M M') : TOLD J M' := by
  obtain ⟨m, a, b, c, d⟩ := h
  exact ⟨m, a, b, (g.1 9 (by decide)).trans c, fun i hi => by rw [g.2 8 (by decide)]; exact d i hi⟩
theorem ask_loop {J U V T : St} {m : Nat} {c : Nat → Nat} {p : Nat → Nat} (hm : m ≤ 5) (hc : ∀ j, j < m → c j < 16 ∧ J.2 4 j = (c j : Int)) : ∀ (d s f f2 n : Nat) (r : Nat → Nat) (R M : St), RR R M n r p → TOLD J M → M.1 3 = 0 → (∀ j, j < m → M.2 10 j = (c j : Int)) → s + d = m → n + d ≤ 300 → d < f → d < f2 → CA (fX3_ask_l104 f (m : Int) (s : Int) (J, R, U, V, T)) (fX4_ask_l102 f2 (m : Int) (s : Int) M) := by
  intro d
  induction d with
  | zero =>
    intro s f f2 n r R M h hT h3 hM hs hn hf hf2
    obtain ⟨f', rfl⟩ : ∃ f', f = f' + 1 := ⟨f - 1, by omega⟩
    obtain ⟨f2', rfl⟩ : ∃ f', f2 = f' + 1 := ⟨f2 - 1, by omega⟩
    have e : wr (m : Int) ≤ wr (s : Int) := by rw [wr_nat (by omega), wr_nat (by omega)]; omega
    unfold fX3_ask_l104 fX4_ask_l102
    rw [if_pos e, if_pos e]
    unfold fX3_ask_j131 fX4_ask_j126
    rw [c_forget, clv_s, h.2.1]
    refine ⟨(n : Int), _, _, ?_, rfl, Rel_forget (V := V) (U := U) (T := T) h hT h3⟩
    show some (R.1 4, _) = _
    rw [h.1]
  | succ d ih =>
    intro s f f2 n r R M h hT h3 hM hs hn hf hf2
    obtain ⟨f', rfl⟩ : ∃ f', f = f' + 1 := ⟨f - 1, by omega⟩
    obtain ⟨f2', rfl⟩ : ∃ f', f2 = f' + 1 := ⟨f2 - 1, by omega⟩
    have e : ¬ wr (m : Int) ≤ wr (s : Int) := by rw [wr_nat (by omega), wr_nat (by omega)]; omega
    obtain ⟨c1, c2⟩ := hc s (by omega)
    obtain ⟨R', M', t1, t2, t3, t4⟩ := add_rel h (by omega) c1
    have hi := ih (s + 1) f' f2' (n + 1) _ R' M' t3 (TOLD_fa hT t4) ((t4.1 3 (by decide)).trans h3) (fun j hj => by rw [t4.2 10 (by decide)]; exact hM j hj) (by omega) (by omega) (by omega) (by omega)
    unfold fX3_ask_l104 fX4_ask_l102
    rw [if_neg e, if_neg e, bd_n (show s < 5 by omega), bd_n (show s < 5 by omega), Int.toNat_natCast, show (J, R, U, V, T).1.2 4 s = (c s : Int) from c2, hM s (by omega), show fX1_append (J, R, U, V, T).2.1 (c s : Int) = some R' from t1, t2, clv_s, clv_s, nm_q, nm_q, up1]
    exact hi
theorem ask_first {J R U V T M : St} {n : Nat} {r p : Nat → Nat} {c : Nat → Int} (h : RR R M n r p) (hT : TOLD J M) (hRel : Rel (J, R, U, V, T) M) (hJ : ∀ j, j < 5 → J.2 4 j = c j ∧ M.2 10 j = c j ∧ wr (c j) = c j) : ∀ (d s f f2 : Nat), s + d = 5 → (∀ j, j < s → 0 ≤ c j ∧ c j < 16) → d < f → d < f2 → CA (fX3_ask_l40 f (s : Int) (J, R, U, V, T)) (fX4_ask_l40 f2 (s : Int) M) := by
  have hn3 := h.2.2.1
  have fin : ∀ s : Nat, s ≤ 5 → (∀ j, j < s → 0 ≤ c j ∧ c j < 16) → CA (fX3_ask_j82 (s : Int) (J, R, U, V, T)) (fX4_ask_j78 (s : Int) M) := by
    intro s hs hc
    unfold fX3_ask_j82 fX4_ask_j78
    rw [show (J, R, U, V, T).2.1.1 4 = (n : Int) from h.1, h.2.1]
    by_cases q : n + s ≤ 300
    · have e : wr ((n : Int) + (s : Int)) ≤ wr 300 := by rw [wl_300, wr_id (by omega)]; omega
      rw [if_pos e, if_pos e, nm_q, cb_0]
      simp only [nm_q]
      exact ask_loop (c := fun j => (c j).toNat) hs (fun j hj => by
        have a := hJ j (by omega)
        have b := hc j hj
        constructor
        · show (c j).toNat < 16; omega
        · show J.2 4 j = ((c j).toNat : Int); omega) s 0 FU FU n r R (setI M 3 0) h hT rfl (fun j hj => by
        have a := hJ j (by omega)
        have b := hc j hj
        show M.2 10 j = ((c j).toNat : Int); omega) (by omega) q (FU_gt (by omega)) (FU_gt (by omega))
    · have e : ¬ wr ((n : Int) + (s : Int)) ≤ wr 300 := by rw [wl_300, wr_id (by omega)]; omega
      rw [if_neg e, if_neg e]
      exact ⟨-2, _, _, rfl, rfl, hRel⟩
  intro d
  induction d with
  | zero =>
    intro s f f2 hs hc hf hf2
    obtain ⟨f', rfl⟩ : ∃ f', f = f' + 1 := ⟨f - 1, by omega⟩
    obtain ⟨f2', rfl⟩ : ∃ f', f2 = f' + 1 := ⟨f2 - 1, by omega⟩
    have e : wr 5 ≤ wr (s : Int) := by rw [wl_5, wr_nat (by omega)]; omega
    unfold fX3_ask_l40 fX4_ask_l40
    rw [if_pos e, if_pos e]
    exact fin s (by omega) hc
  | succ d ih =>
    intro s f f2 hs hc hf hf2
    obtain ⟨f', rfl⟩ : ∃ f', f = f' + 1 := ⟨f - 1, by omega⟩
    obtain ⟨f2', rfl⟩ : ∃ f', f2 = f' + 1 := ⟨f2 - 1, by omega⟩
    have e : ¬ wr 5 ≤ wr (s : Int) := by rw [wl_5, wr_nat (by omega)]; omega
    have hs5 : s < 5 := by omega
    obtain ⟨a1, a2, a3⟩ := hJ s hs5
    unfold fX3_ask_l40 fX4_ask_l40
    rw [if_neg e, if_neg e]
    simp only [bd_n hs5, Int.toNat_natCast]
    rw [a1, a2, a3, wl_m1]
    by_cases q : c s = -1
    · rw [if_pos q, if_pos q]
      exact fin s (by omega) hc
    · rw [if_neg q, if_neg q, e_isThing a3, m_isThing a3, clp_s, clp_s]
      by_cases q2 : 0 ≤ c s ∧ c s < 16
      · rw [if_pos q2, if_neg w1, if_neg w1, nm_q, nm_q, up1]
        exact ih (s + 1) f' f2' (by omega) (fun j hj => by
          by_cases z : j = s
          · rw [z]; exact q2
          · exact hc j (by omega)) (by omega) (by omega)
      · rw [if_neg q2, if_pos wl_0, if_pos wl_0]
        exact ⟨-1, _, _, rfl, rfl, hRel⟩
theorem call_ask {J R U V T M : St} {a b c d e : Int} (h : Rel (J, R, U, V, T) M) (ha : wr a = a) (hb : wr b = b) (hc : wr c = c) (hd : wr d = d) (he : wr e = e) : CA (fX3_ask (J, R, U, V, T) a b c d e) (fX4_ask M a b c d e) := by
  obtain ⟨n, r, p, h1, h2, h3, h4⟩ := id h
  have b0 : ∀ {O : Type} (F : Option O), bd 0 5 F = F := fun F => bd_n (n := 0) (m := 5) (F := F) (by decide)
  have b1 : ∀ {O : Type} (F : Option O), bd 1 5 F = F := fun F => bd_n (n := 1) (m := 5) (F := F) (by decide)
  have b2 : ∀ {O : Type} (F : Option O), bd 2 5 F = F := fun F => bd_n (n := 2) (m := 5) (F := F) (by decide)
  have b3 : ∀ {O : Type} (F : Option O), bd 3 5 F = F := fun F => bd_n (n := 3) (m := 5) (F := F) (by decide)
  have b4 : ∀ {O : Type} (F : Option O), bd 4 5 F = F := fun F => bd_n (n := 4) (m := 5) (F := F) (by decide)
  unfold fX3_ask fX4_ask
  simp only [b0, b1, b2, b3, b4, nm_q]
  generalize hJ' : setA (setA (setA (setA (setA J 4 (Int.toNat 0) a) 4 (Int.toNat 1) b) 4 (Int.toNat 2) c) 4 (Int.toNat 3) d) 4 (Int.toNat 4) e = J'
  generalize hM' : setA (setA (setA (setA (setA M 10 (Int.toNat 0) a) 10 (Int.toNat 1) b) 10 (Int.toNat 2) c) 10 (Int.toNat 3) d) 10 (Int.toNat 4) e = M'
  have j1 : J'.1 = J.1 := by rw [← hJ']; rfl
  have j2 : ∀ a, a ≠ 4 → J'.2 a = J.2 a := fun a ha => by rw [← hJ']; exact funext fun t => by simp only [sA2, if_neg ha]
  have m1 : M'.1 = M.1 := by rw [← hM']; rfl
  have m2 : ∀ a, a ≠ 10 → M'.2 a = M.2 a := fun a ha => by rw [← hM']; exact funext fun t => by simp only [sA2, if_neg ha]
  have h1' : RR R M' n r p := by
    unfold RR at h1 ⊢; rw [m1, m2 0 (by decide), m2 1 (by decide)]; exact h1
  have h2' : TOLD J' M' := by
    unfold TOLD at h2 ⊢; rw [j1, m1, j2 5 (by decide), m2 8 (by decide)]; exact h2
  have h3' : RUNR J' U R M' n r p := by
    unfold RUNR JV at h3 ⊢
    rw [j1, m1, j2 6 (by decide), j2 7 (by decide), m2 6 (by decide), m2 7 (by decide)]; exact h3
  refine ask_first (c := fun j => if j = 0 then a else if j = 1 then b else if j = 2 then c else if j = 3 then d else e) h1' h2' ⟨n, r, p, h1', h2', h3', h4⟩ (fun j hj => ?_) 5 0 FU FU (by omega) (fun j hj => by omega) (FU_gt (by omega)) (FU_gt (by omega))
  rw [← hJ', ← hM']
  obtain rfl | rfl | rfl | rfl | rfl : j = 0 ∨ j = 1 ∨ j = 2 ∨ j = 3 ∨ j = 4 := by omega
  · exact ⟨rfl, rfl, ha⟩
  · exact ⟨rfl, rfl, hb⟩
  · exact ⟨rfl, rfl, hc⟩
  · exact ⟨rfl, rfl, hd⟩
  · exact ⟨rfl, rfl, he⟩
