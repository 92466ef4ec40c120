/-! the relation of judge and model, and the calls -/
def TOLD (J M : St) : Prop := ∃ m : Nat, m ≤ 300 ∧ J.1 8 = (m : Int) ∧ M.1 9 = (m : Int) ∧ ∀ i, i < m → J.2 5 i = M.2 8 i ∧ -1 ≤ J.2 5 i ∧ J.2 5 i < 16
def RUNR (J U R M : St) (n : Nat) (r p : Nat → Nat) : Prop := (J.1 11 = 0 ∧ M.1 3 = 0) ∨ (J.1 11 = 1 ∧ M.1 3 = 1 ∧ JV J r p n ∧ (∀ i, i < n → M.2 6 i = J.2 6 i ∧ M.2 7 i = J.2 7 i) ∧ ∃ w k s : Nat, M.1 4 = (w : Int) ∧ M.1 5 = (k : Int) ∧ AT U R n r p w k s)
def TBL (T R : St) (n : Nat) (r p : Nat → Nat) : Prop := T.1 10 = 0 ∨ ∃ k : Nat, (1 ≤ k ∧ k ≤ 8) ∧ T.1 10 = (k : Int) ∧ ∀ M, RR R M n r p → (∃ M', fX4_least_ M (k : Int) = some (T.1 11, M') ∧ FR M M') ∧ ∀ i, i < n → ∃ M', fX4_goes M (k : Int) (i : Int) = some (T.2 7 i, M') ∧ FR M M'
def RelA (J R U T M : St) (n : Nat) (r p : Nat → Nat) : Prop := RR R M n r p ∧ TOLD J M ∧ RUNR J U R M n r p ∧ TBL T R n r p
def Rel (Y : St × St × St × St × St) (M : St) : Prop := ∃ n r p, RelA Y.1 Y.2.1 Y.2.2.1 Y.2.2.2.2 M n r p
/-- a call answers alike on both sides and keeps the relation -/
def CA (o : Option (Int × (St × St × St × St × St))) (o' : Option (Int × St)) : Prop := ∃ a Y' M', o = some (a, Y') ∧ o' = some (a, M') ∧ Rel Y' M'
theorem TBL_row {T R R' : St} {n : Nat} {r p : Nat → Nat} (h : TBL T R n r p) (g : RW R R') : TBL T R' n r p := by
  rcases h with q | ⟨k, a, b, c⟩
  · exact Or.inl q
  · exact Or.inr ⟨k, a, b, fun M hM => c M (RR_row hM ⟨g.1.symm, fun a x y => (g.2 a x y).symm⟩)⟩
theorem RelA_fr {J R U T M M' : St} {n : Nat} {r p : Nat → Nat} (h : RelA J R U T M n r p) (g : FR M M') : RelA J R U T M' n r p := by
  obtain ⟨h1, ⟨m, a, b, c, d⟩, h3, h4⟩ := h
  refine ⟨RR_keep h1 g, ⟨m, a, b, (g.1 9 (by decide)).trans c, fun i hi => ?_⟩, ?_, h4⟩
  · rw [g.2 8 i (by decide)]; exact d i hi
  · rcases h3 with ⟨x, y⟩ | ⟨x, y, z, u, w, k, s, e1, e2, e3⟩
    · exact Or.inl ⟨x, (g.1 3 (by decide)).trans y⟩
    · exact Or.inr ⟨x, (g.1 3 (by decide)).trans y, z, fun i hi => by rw [g.2 6 i (by decide), g.2 7 i (by decide)]; exact u i hi, w, k, s, (g.1 4 (by decide)).trans e1, (g.1 5 (by decide)).trans e2, e3⟩
theorem RelA_row {J R R' U T M : St} {n : Nat} {r p : Nat → Nat} (h : RelA J R U T M n r p) (g : RW R R') (hx : NX R n r → NX R' n r) : RelA J R' U T M n r p := by
  obtain ⟨h1, h2, h3, h4⟩ := h
  refine ⟨RR_row h1 g, h2, ?_, TBL_row h4 g⟩
  rcases h3 with q | ⟨x, y, z, u, w, k, s, e1, e2, e3⟩
  · exact Or.inl q
  · exact Or.inr ⟨x, y, z, u, w, k, s, e1, e2, AT_row e3 g (fun q => hx ((AT_b e3 h1).2.2.2.2 q))⟩
theorem Rel_forget {J R U V T M : St} {n : Nat} {r p : Nat → Nat} (h1 : RR R M n r p) (h2 : TOLD J M) (h3 : M.1 3 = 0) : Rel (setI J 11 0, R, U, V, setI T 10 0) M := ⟨n, r, p, h1, h2, Or.inl ⟨rfl, h3⟩, Or.inl rfl⟩
theorem c_forget {J R U V T : St} : fX3_forget (J, R, U, V, T) = some (setI J 11 0, R, U, V, setI T 10 0) := by
  unfold fX3_forget
  rw [cb_0, nm_q, nm_q]
theorem m_in {a b c : Int} (ha : wr a = a) (hb : wr b = b) (hc : wr c = c) : fX4_in a b c = some (if b ≤ a ∧ a ≤ c then 1 else 0) := by
  unfold fX4_in
  rw [ha, hb, hc]
  by_cases h1 : a < b
  · rw [if_pos h1, if_neg (by omega)]; unfold fX4_in_j14 fX4_in_j15; rw [cb_0]
  · by_cases h2 : c < a
    · rw [if_neg h1, if_pos h2, if_neg (by omega)]; unfold fX4_in_j14 fX4_in_j15; rw [cb_0]
    · rw [if_neg h1, if_neg h2, if_pos (by omega)]; unfold fX4_in_j15; rw [cb_1]
theorem m_isThing {a : Int} (ha : wr a = a) : fX4_isThing a = some (if 0 ≤ a ∧ a < 16 then 1 else 0) := by
  unfold fX4_isThing
  rw [m_in ha wl_0 (wr_id (by omega)), clp_s]
  by_cases q : 0 ≤ a ∧ a < 16
  · rw [if_pos q, if_pos (by omega), cb_1]
  · rw [if_neg q, if_neg (by omega), cb_0]
theorem m_isAsking {M : St} {n : Nat} {a : Int} (ha : wr a = a) (hn : M.1 2 = (n : Int)) (hn3 : n ≤ 300) : fX4_isAsking M a = some (if 0 ≤ a ∧ a < (n : Int) then 1 else 0, M) := by
  unfold fX4_isAsking
  rw [hn, m_in ha wl_0 (wr_id (by omega)), clp_s]
  by_cases q : 0 ≤ a ∧ a < (n : Int)
  · rw [if_pos q, if_pos (by omega), cb_1]
  · rw [if_neg q, if_neg (by omega), cb_0]
theorem nat_of {a : Int} (h : 0 ≤ a) : ∃ x : Nat, a = (x : Int) := ⟨a.toNat, by omega⟩
theorem w1 : ¬ wr 1 = 0 := by rw [wl_1]; decide
theorem call_price {J R U V T M : St} {a b : Int} (h : Rel (J, R, U, V, T) M) (ha : wr a = a) (hb : wr b = b) : CA (fX3_price (J, R, U, V, T) a b) (fX4_price M a b) := by
  obtain ⟨n, r, p, h1, h2, h3, h4⟩ := id h
  unfold fX3_price fX4_price
  rw [e_isThing ha, m_isThing ha, clp_s, clp_s]
  by_cases q : 0 ≤ a ∧ a < 16
  · rw [if_pos q, if_neg w1, if_neg w1, m_in hb wl_1 wl_1000, clp_s, hb, wl_1, wl_1000]
    by_cases q2 : 1 ≤ b ∧ b ≤ 1000
    · rw [if_pos q2, if_neg (by omega), if_pos q2.2, if_neg (by decide), cb_0, nm_q]
      obtain ⟨x, rfl⟩ := nat_of q.1
      obtain ⟨y, rfl⟩ := nat_of (show 0 ≤ b by omega)
      have hx : x < 16 := by omega
      rw [bd_n hx, nm_q, bd_n hx, nm_q, c_forget, clv_s]
      refine ⟨1, _, _, rfl, rfl, Rel_forget (n := n) (r := r) (p := fun t => if t = x then y else p t) ⟨h1.1, h1.2.1, h1.2.2.1, h1.2.2.2.1, fun t ht => ?_⟩ h2 rfl⟩
      simp only [sA2, sI2, ↓reduceIte, Int.toNat_natCast]
      by_cases z : t = x
      · simp only [if_pos z]; exact ⟨by omega, by omega, trivial, trivial⟩
      · simp only [if_neg z]; exact h1.2.2.2.2 t ht
    · rw [if_neg q2, if_pos wl_0]
      refine ⟨-1, _, _, ?_, rfl, h⟩
      by_cases z : b < 1
      · rw [if_pos z]; rfl
      · rw [if_neg z, if_neg (by omega)]; rfl
  · rw [if_neg q, if_pos wl_0, if_pos wl_0]
    exact ⟨-1, _, _, rfl, rfl, h⟩
theorem call_change {J R U V T M : St} {a b : Int} (h : Rel (J, R, U, V, T) M) (ha : wr a = a) (hb : wr b = b) : CA (fX3_change (J, R, U, V, T) a b) (fX4_change M a b) := by
  obtain ⟨n, r, p, h1, h2, h3, h4⟩ := id h
  unfold fX3_change fX4_change
  rw [e_has h1.1 h1.2.2.1 ha, m_isAsking ha h1.2.1 h1.2.2.1, cls_s, cls_s]
  by_cases q : 0 ≤ a ∧ a < (n : Int)
  · rw [if_pos q, if_neg w1, if_neg w1, e_isThing hb, m_isThing hb, clp_s, clp_s]
    by_cases q2 : 0 ≤ b ∧ b < 16
    · rw [if_pos q2, if_neg w1, if_neg w1, cb_0, nm_q]
      obtain ⟨x, rfl⟩ := nat_of q.1
      obtain ⟨y, rfl⟩ := nat_of q2.1
      have hx : x < 300 := by have := h1.2.2.1; omega
      rw [bd_n hx, nm_q, bd_n hx, nm_q, c_forget, clv_s]
      refine ⟨1, _, _, rfl, rfl, Rel_forget (n := n) (r := fun t => if t = x then y else r t) (p := p) ⟨h1.1, h1.2.1, h1.2.2.1, fun t ht => ?_, h1.2.2.2.2⟩ h2 rfl⟩
      simp only [sA2, sI2, ↓reduceIte, Int.toNat_natCast]
      by_cases z : t = x
      · simp only [if_pos z]; exact ⟨by omega, trivial, trivial⟩
      · simp only [if_neg z]; exact h1.2.2.2.1 t ht
    · rw [if_neg q2, if_pos wl_0, if_pos wl_0]
      exact ⟨-1, _, _, rfl, rfl, h⟩
  · rw [if_neg q, if_pos wl_0, if_pos wl_0]
    exact ⟨-1, _, _, rfl, rfl, h⟩
theorem call_cut {J R U V T M : St} {a : Int} (h : Rel (J, R, U, V, T) M) (ha : wr a = a) : CA (fX3_cut (J, R, U, V, T) a) (fX4_cut M a) := by
  obtain ⟨n, r, p, h1, h2, h3, h4⟩ := id h
  have hn3 := h1.2.2.1
  unfold fX3_cut fX4_cut
  rw [show (J, R, U, V, T).2.1.1 4 = (n : Int) from h1.1, h1.2.1, m_in ha wl_0 (wr_nat (by omega)), clp_s, ha, wr_nat (show n < 2147483648 by omega)]
  by_cases q : 0 ≤ a ∧ a ≤ (n : Int)
  · rw [if_neg (by omega), if_pos q.2, if_pos q, if_neg w1, cb_0, nm_q, nm_q, nm_q, c_forget, clv_s]
    obtain ⟨x, rfl⟩ := nat_of q.1
    refine ⟨_, _, _, rfl, rfl, Rel_forget (n := x) (r := r) (p := p) ⟨rfl, rfl, by omega, fun t ht => h1.2.2.2.1 t (by omega), h1.2.2.2.2⟩ h2 rfl⟩
  · rw [if_neg q, if_pos wl_0]
    refine ⟨-1, _, _, ?_, rfl, h⟩
    by_cases z : a < 0
    · rw [if_pos z]; rfl
    · rw [if_neg z, if_neg (by omega)]; rfl
theorem call_asked {J R U V T M : St} {a : Int} (h : Rel (J, R, U, V, T) M) (ha : wr a = a) : CA (fX3_asked (J, R, U, V, T) a) (fX4_asked M a) := by
  obtain ⟨n, r, p, h1, h2, h3, h4⟩ := id h
  unfold fX3_asked fX4_asked
  rw [e_has h1.1 h1.2.2.1 ha, m_isAsking ha h1.2.1 h1.2.2.1, cls_s, cls_s]
  by_cases q : 0 ≤ a ∧ a < (n : Int)
  · obtain ⟨x, rfl⟩ := nat_of q.1
    have hx : x < 300 := by have := h1.2.2.1; omega
    obtain ⟨b1, b2, b3⟩ := h1.2.2.2.1 x (by omega)
    rw [if_pos q, if_neg w1, if_neg w1, bd_n hx, bd_n hx]
    refine ⟨(r x : Int), _, _, ?_, ?_, h⟩
    · show some (R.2 0 x, _) = _; rw [b2]
    · show some (M.2 1 x, _) = _; rw [b3]
  · rw [if_neg q, if_pos wl_0, if_pos wl_0]
    exact ⟨-1, _, _, rfl, rfl, h⟩
theorem call_hit {J R U V T M : St} {a : Int} (h : Rel (J, R, U, V, T) M) (ha : wr a = a) : CA (fX3_hit (J, R, U, V, T) a) (fX4_hit_ M a) := by
  obtain ⟨n, r, p, h1, h2, h3, h4⟩ := id h
  unfold fX3_hit fX4_hit_
  rcases h3 with ⟨x, y⟩ | ⟨x, y, z, u, -⟩
  · rw [show (J, R, U, V, T).1.1 11 = 0 from x, y, if_pos wl_0, if_pos wl_0]
    exact ⟨-3, _, _, rfl, rfl, h⟩
  · rw [show (J, R, U, V, T).1.1 11 = 1 from x, y, if_neg w1, if_neg w1, e_has h1.1 h1.2.2.1 ha, m_isAsking ha h1.2.1 h1.2.2.1, cls_s, cls_s]
    by_cases q : 0 ≤ a ∧ a < (n : Int)
    · obtain ⟨x, rfl⟩ := nat_of q.1
      have hx : x < 300 := by have := h1.2.2.1; omega
      rw [if_pos q, if_neg w1, if_neg w1, bd_n hx, bd_n hx]
      refine ⟨J.2 6 x, _, _, rfl, ?_, h⟩
      show some (M.2 6 x, _) = _; rw [(u x (by omega)).1]
    · rw [if_neg q, if_pos wl_0, if_pos wl_0]
      exact ⟨-1, _, _, rfl, rfl, h⟩
theorem call_gone {J R U V T M : St} {a : Int} (h : Rel (J, R, U, V, T) M) (ha : wr a = a) : CA (fX3_gone (J, R, U, V, T) a) (fX4_gone M a) := by
  obtain ⟨n, r, p, h1, h2, h3, h4⟩ := id h
  unfold fX3_gone fX4_gone
  rcases h3 with ⟨x, y⟩ | ⟨x, y, z, u, -⟩
  · rw [show (J, R, U, V, T).1.1 11 = 0 from x, y, if_pos wl_0, if_pos wl_0]
    exact ⟨-1, _, _, rfl, rfl, h⟩
  · rw [show (J, R, U, V, T).1.1 11 = 1 from x, y, if_neg w1, if_neg w1, e_has h1.1 h1.2.2.1 ha, m_isAsking ha h1.2.1 h1.2.2.1, cls_s, cls_s]
    by_cases q : 0 ≤ a ∧ a < (n : Int)
    · obtain ⟨x, rfl⟩ := nat_of q.1
      have hx : x < 300 := by have := h1.2.2.1; omega
      rw [if_pos q, if_neg w1, if_neg w1, bd_n hx, bd_n hx]
      refine ⟨J.2 7 x, _, _, rfl, ?_, h⟩
      show some (M.2 7 x, _) = _; rw [(u x (by omega)).2]
    · rw [if_neg q, if_pos wl_0, if_pos wl_0]
      exact ⟨-1, _, _, rfl, rfl, h⟩
