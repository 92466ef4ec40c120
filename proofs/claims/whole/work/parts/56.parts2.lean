/-! TWOFOLD and BALANCE: both choose alike -/
theorem div_nat {a d : Nat} (ha : a < 2147483648) (h0 : 0 < d) (hd : d < 2147483648) : divI (a : Int) (d : Int) = ((a / d : Nat) : Int) := by
  unfold divI
  rw [iz_nat, iz_nat, pk_div ha h0 hd]
  exact nI_toInt (Nat.lt_of_le_of_lt (Nat.div_le_self _ _) ha)
def ky (M : St) (P t : Nat) : Int := if P = 2 then M.2 15 t else M.2 20 t
def aP (S M : St) (P : Nat) : Int := amin (fun t => S.2 1 t = (P : Int)) (fun t u => ky M P t < ky M P u) 16
theorem kb_r {S R M : St} {n : Nat} {r p : Nat → Nat} {w k i ly : Nat} {occ : Nat → Prop} (h : SH S R M n r p w k i ly occ) (hb : w = 5 ∨ w = 6) {P : Nat} (hP : 1 ≤ P ∧ P ≤ 4) {t : Nat} (ht : t < 16) (hp : S.2 1 t = (P : Int)) : keyV S R w t = ky M P t ∧ 0 ≤ ky M P t ∧ ky M P t ≤ 300 := by
  have hT := h.2.2.2.2.2.1 t ht
  have hn3 : i ≤ 300 := Nat.le_trans h.2.1.2.2.2.1 h.1.2.2.1
  have ek : keyV S R w t = if S.2 1 t = 2 then S.2 4 t else S.2 3 t := by
    unfold keyV
    rw [if_neg (by omega), if_neg (by omega), if_pos hb]
  rw [ek]
  unfold ky
  by_cases q : P = 2
  · have a := hT.1
    have b := hT.2.2.2.1 (by omega)
    rw [if_pos q, if_pos (by omega)]
    omega
  · have b := hT.2.2.2.2.2.2.2.1 hb (by omega)
    rw [if_neg q, if_neg (by omega)]
    omega
theorem cf_b {S R M : St} {n : Nat} {r p : Nat → Nat} {w k i ly : Nat} {occ : Nat → Prop} (h : SH S R M n r p w k i ly occ) (hb : w = 5 ∨ w = 6) {P : Nat} (hP : 1 ≤ P ∧ P ≤ 4) : fX2_firstOf (S, R) (P : Int) = some (if aP S M P < 0 then 0 else aP S M P, (S, R)) := by
  obtain ⟨mk, hmk, hmk2, -, -⟩ := h.2.2.2.1
  have hT := h.2.2.2.2.2.1
  have q := c_firstOf (R := R) (fr := (P : Int)) h.2.2.1.1 h.2.1.1 hmk2 hmk (fun t ht => (TH_r (hT t ht)).1.1) (wr_nat (by omega)) (fun z => by omega) (fun t ht hp => by
    obtain ⟨e, e2, e3⟩ := kb_r h hb hP ht hp
    rw [e]
    exact wr_id (by omega)) _ rfl
  have he : amin (fun t => S.2 1 t = (P : Int) ∧ ¬ (w = 2 ∧ mk.testBit t = true)) (fun t u => keyV S R w t < keyV S R w u) 16 = aP S M P := amin_congr (n := 16) (fun t ht => ⟨fun z => z.1, fun z => ⟨z, fun y => by omega⟩⟩) (fun t u ht hu z1 z2 => by rw [(kb_r h hb hP ht z1.1).1, (kb_r h hb hP hu z2.1).1]) 16 (Nat.le_refl _)
  rw [he] at q
  exact q
theorem aP_g {S R M : St} {n : Nat} {r p : Nat → Nat} {w k i ly : Nat} {occ : Nat → Prop} (h : SH S R M n r p w k i ly occ) {P : Nat} (hP : 1 ≤ P ∧ P ≤ 4) (hpos : 0 < S.2 2 P) : ∃ g : Nat, g < 16 ∧ aP S M P = (g : Int) ∧ S.2 1 g = (P : Int) := by
  have hC := h.2.2.2.2.1 P hP.1 hP.2
  obtain ⟨t, ht, htp⟩ := (cn_pos (c := fun t => S.2 1 t = (P : Int)) (n := 16)).mp (by omega)
  obtain ⟨b1, b2, b3, b4⟩ := amin_b (fun t => S.2 1 t = (P : Int)) (fun t u => ky M P t < ky M P u) 16
  unfold aP
  have hp : 0 ≤ amin (fun t => S.2 1 t = (P : Int)) (fun t u => ky M P t < ky M P u) 16 := by
    by_cases q : amin (fun t => S.2 1 t = (P : Int)) (fun t u => ky M P t < ky M P u) 16 < 0
    · exact absurd htp (b4 q t ht)
    · omega
  have hg3 := b3 hp
  exact ⟨(amin (fun t => S.2 1 t = (P : Int)) (fun t u => ky M P t < ky M P u) 16).toNat, by omega, by omega, hg3⟩
theorem mf_b {S R M M' : St} {n : Nat} {r p : Nat → Nat} {w k i ly : Nat} {occ : Nat → Prop} (h : SH S R M n r p w k i ly occ) (hb : w = 5 ∨ w = 6) {P : Nat} (hP : 1 ≤ P ∧ P ≤ 4) (h2 : P ≠ 2) (e19 : ∀ t, t < 16 → (M'.2 19 t = (P : Int) ↔ S.2 1 t = (P : Int)) ∧ 0 ≤ M'.2 19 t ∧ M'.2 19 t < 5) (e20 : ∀ t, M'.2 20 t = M.2 20 t) : fX4_firstIn M' (P : Int) = some (aP S M P, M') ∧ fX4_partSize M' (P : Int) = some (S.2 2 P, M') := by
  have hr : ∀ t, t < 16 → wr (M'.2 19 t) = M'.2 19 t := fun t ht => wr_id (by have := e19 t ht; omega)
  constructor
  · rw [m_firstIn (Y := M') (wr_nat (by omega)) hr (fun t ht hp => by
      obtain ⟨e, e2, e3⟩ := kb_r h hb hP ht ((e19 t ht).1.mp hp)
      rw [e20]
      unfold ky at e2 e3
      rw [if_neg h2] at e2 e3
      exact wr_id (by omega))]
    congr 2
    unfold aP
    refine amin_congr (n := 16) (fun t ht => (e19 t ht).1) (fun t u ht hu z1 z2 => ?_) 16 (Nat.le_refl _)
    unfold ky
    rw [if_neg h2, if_neg h2, e20, e20]
  · rw [m_partSize (Y := M') (wr_nat (by omega)) hr, h.2.2.2.2.1 P hP.1 hP.2]
    rw [cn_congr (c := fun t => M'.2 19 t = (P : Int)) (c' := fun t => S.2 1 t = (P : Int)) (n := 16) (fun t ht => (e19 t ht).1)]
theorem mp_2 {S R M : St} {n : Nat} {r p : Nat → Nat} {w k i ly : Nat} {occ : Nat → Prop} (h : SH S R M n r p w k i ly occ) (hb : w = 5 ∨ w = 6) : fX4_partSize M 2 = some (S.2 2 2, M) ∧ fX4_resting M 2 0 = some (aP S M 2, M) := by
  have hT := h.2.2.2.2.2.1
  obtain ⟨mk, -, -, -, hmk4⟩ := h.2.2.2.1
  have hn3 : i ≤ 300 := Nat.le_trans h.2.1.2.2.2.1 h.1.2.2.1
  have e19 : ∀ t, t < 16 → M.2 19 t = S.2 1 t := fun t ht => (hT t ht).2.1 hb
  constructor
  · rw [m_partSize (Y := M) wl_2 (fun t ht => (TH_r (hT t ht)).2.2.1.1), h.2.2.2.2.1 2 (by decide) (by decide)]
    rw [cn_congr (c := fun t => M.2 19 t = 2) (c' := fun t => S.2 1 t = ((2 : Nat) : Int)) (n := 16) (fun t ht => by rw [e19 t ht]; rfl)]
  · have q := m_resting (Y := M) (a := 2) (b := 0) wl_2 wl_0 (fun t ht => ⟨(TH_r (hT t ht)).2.1, (TH_r (hT t ht)).2.2.1.1, by rw [hmk4 (by omega) t ht]; exact wl_0⟩) (fun t ht z => by
      have a := (TH_r (hT t ht)).2.2.2
      have := (hT t ht).2.2.2.1 (by omega)
      exact wr_id (by omega))
    rw [q]
    congr 2
    unfold aP
    refine amin_congr (n := 16) (fun t ht => ?_) (fun t u ht hu z1 z2 => ?_) 16 (Nat.le_refl _)
    · have a := (hT t ht).1
      rw [e19 t ht]
      constructor
      · intro z; have := z.2.1; omega
      · intro z; exact ⟨by omega, Or.inr z, Or.inl rfl⟩
    · unfold ky
      simp only [↓reduceIte]
/-- into a book: what both do -/
theorem toBook_rel {S R M : St} {n : Nat} {r p : Nat → Nat} {w k i : Nat} {g bk : Nat} (h : SH S R M n r p w k i k (fun q => q < k)) (hb : w = 5 ∨ w = 6) (hg : g < 16) (hgl : M.2 13 g = 1) (hbk : bk = 3 ∨ bk = 4) : ∃ (S2 M3 : St) (spot : Nat), (if wr (S.2 2 bk) < wr (S.1 10) then (fX2_takeAway_j52 (g : Int) (bk : Int) (S, R)) else (cls (fX2_firstOf (S, R) (bk : Int)) (fun u => u) fun r106 Y105 => clv (fX2_move Y105 r106 0) (fun u => u) fun Y107 => fX2_takeAway_j52 (g : Int) (bk : Int) Y107)) = some (S2, R) ∧ fX4_toBook (setA M 19 g 0) (g : Int) (bk : Int) (i : Int) = some M3 ∧ spot < k ∧ S.2 7 g = (spot : Int) ∧ M3.2 18 g = (spot : Int) ∧ SH S2 R (lvM M3 g (M.1 24) (M.1 26)) n r p w k i (k - 1) (fun q => q ≠ spot) ∧ (∀ j, M3.1 j = M.1 j) ∧ (∀ t, M3.2 13 t = M.2 13 t) ∧ (∀ x, S.2 1 x = 0 → S2.2 1 x = 0) ∧ S2.1 17 = S.1 17 ∧ FR M M3 := by
  obtain ⟨hR, ⟨h8, hk1, hk8, hin, hlyk⟩, hsc, -, hC, hT, hP, hN⟩ := id h
  obtain ⟨c1, c2, c3, c4, c5, c6, c7, c8, c9, c10, c11, c12, c13, c14, c15, c16, c17, c18, c19⟩ := hsc
  have hbl := cnt_le hC bk (by omega) (by omega)
  have hle : S.2 2 bk ≤ (k : Int) := by rcases hbk with q | q <;> subst q <;> assumption
  have hgp : S.2 1 g = 1 ∨ S.2 1 g = 2 := by have := (hT g hg).1; omega
  have e19 : ∀ t, t < 16 → ((setA M 19 g 0).2 19 t = (bk : Int) ↔ S.2 1 t = (bk : Int)) ∧ 0 ≤ (setA M 19 g 0).2 19 t ∧ (setA M 19 g 0).2 19 t < 5 := fun t ht => by
    have a := (hT t ht).2.1 hb
    have b := (TH_r (hT t ht)).1
    simp only [sA2, ↓reduceIte]
    by_cases q : t = g
    · subst q; rw [if_pos rfl]; omega
    · rw [if_neg q, a]; omega
  obtain ⟨mf, mp⟩ := mf_b (M' := setA M 19 g 0) h hb (P := bk) (by omega) (by omega) e19 (fun t => by simp [sA2])
  have wbk : wr (S.2 2 bk) = S.2 2 bk := wr_id (by omega)
  by_cases hlt : S.2 2 bk < (k : Int)
  · obtain ⟨spot, s1, s2, s3, s4⟩ := remB_rel (M3 := setA (setA (setA M 19 g 0) 19 g (bk : Int)) 20 g (i : Int)) (bk := bk) h hb hg hgl (Or.inr ⟨hbk, hlt⟩) (fun _ => rfl) (fun a t h1 h2 => by simp [sA2, h1, h2]) (fun t => by simp only [sA2]; grind) (fun t => by simp only [sA2]; grind)
    refine ⟨_, _, spot, ?_, ?_, s1, s2, s3, s4, fun _ => rfl, fun _ => rfl, fun x hx => ?_, rfl, ⟨fun _ _ => rfl, fun a t ha => by simp only [sA2]; simp only [if_neg (show ¬ a = 19 by omega), if_neg (show ¬ a = 20 by omega)]⟩⟩
    · rw [wbk, c3, wr_nat (by omega), if_pos hlt]
      simp only [fX2_takeAway_j52, c_move (R := R) (to := bk) hg (by omega) (show 0 ≤ S.2 1 g ∧ S.2 1 g < 5 by omega), clv_s]
    · simp only [fX4_toBook, fX4_toBook_j23, mp, cls_s, wbk, sA1, c4, wr_nat (show k < 2147483648 by omega), nm, bd_n hg, Int.toNat_natCast]
      rw [if_neg (by omega)]
    · rw [mvS_n _ _ _ _ _ (fun z => by subst z; omega) (by decide)]; exact hx
  · obtain ⟨e, e1, e2, e3⟩ := aP_g h (P := bk) (by omega) (by omega)
    rw [e2] at mf
    obtain ⟨hE, hE2⟩ := evict_rel (e := e) h hb e1 (by omega)
    have hge : g ≠ e := fun z => by subst z; omega
    have hlt2 : (mvS S e 0).2 2 bk < (k : Int) := by rw [hE2 bk (by omega), if_pos (by omega)]; omega
    have hgl2 : (setA M 19 e 0).2 13 g = 1 := hgl
    obtain ⟨spot, s1, s2, s3, s4⟩ := remB_rel (M3 := setA (setA (setA (setA M 19 g 0) 19 e 0) 19 g (bk : Int)) 20 g (i : Int)) (bk := bk) hE hb hg hgl2 (Or.inr ⟨hbk, hlt2⟩) (fun _ => rfl) (fun a t h1 h2 => by simp [sA2, h1, h2]) (fun t => by simp only [sA2]; grind) (fun t => by simp only [sA2]; grind)
    have s2 : S.2 7 g = (spot : Int) := (mvS_a S e 0 g 7 (by decide)).symm.trans s2
    refine ⟨_, _, spot, ?_, ?_, s1, s2, s3, s4, fun _ => rfl, fun _ => rfl, fun x hx => ?_, rfl, ⟨fun _ _ => rfl, fun a t ha => by simp only [sA2]; simp only [if_neg (show ¬ a = 19 by omega), if_neg (show ¬ a = 20 by omega)]⟩⟩
    · rw [wbk, c3, wr_nat (by omega), if_neg hlt, cf_b h hb (P := bk) (by omega), e2]
      have he1 : fX2_move (S, R) (e : Int) 0 = some (mvS S e 0, R) := c_move (to := 0) e1 (by decide) (by omega)
      have hg1 : (mvS S e 0).2 1 g = S.2 1 g := mvS_n _ _ _ _ _ hge (by decide)
      have hm2 : fX2_move (mvS S e 0, R) (g : Int) (bk : Int) = some (mvS (mvS S e 0) g bk, R) := c_move hg (by omega) (by rw [hg1]; omega)
      simp only [if_neg (show ¬ (e : Int) < 0 by omega), cls_s, he1, clv_s, fX2_takeAway_j52, hm2]
    · simp only [fX4_toBook, fX4_toBook_j23, mp, cls_s, wbk, sA1, c4, wr_nat (show k < 2147483648 by omega), mf, nm, bd_n hg, bd_n e1, Int.toNat_natCast]
      rw [if_pos (by omega)]
    · have z1 : x ≠ e := fun z => by subst z; omega
      have z2 : x ≠ g := fun z => by subst z; omega
      rw [mvS_n _ _ _ _ _ z2 (by decide), mvS_n _ _ _ _ _ z1 (by decide)]
      exact hx
