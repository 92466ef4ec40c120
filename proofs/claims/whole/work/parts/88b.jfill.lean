/-! the judge's choices -/
theorem swp {S u b x : Nat} (hu : u ≤ 10) (hS : S < 2 ^ u) (hb : S.testBit b = true) (hx : x < u) : orI (xorI (S : Int) (shlI 1 (b : Int))) (shlI 1 (x : Int)) = ((clr S b ||| 2 ^ x : Nat) : Int) := by
  have h1 := pu hu
  have hbu := bit_lt hS hb
  have h2 : 2 ^ b < 2 ^ u := Nat.pow_lt_pow_right (by decide) hbu
  have hc : clr S b < 65536 := clr_lt (by omega)
  rw [shl1 (t := b) (by omega), xor_nat u (by omega) hS h2, xor_clr (by omega) hb, (or_bit hc (by omega)).1]
theorem bc_s (n : Nat) (v1 v2 v3 v4 v5 v6 : Int) (Y : St × St) : fX0_bestChoice_l11 (n + 1) v1 v2 v3 v4 v5 v6 Y = if wr (Y.1.1 8) ≤ wr v6 then (fX0_bestChoice_j72 v3 Y) else (if wr (andI v1 (shlI 1 v6)) = 0 then (fX0_bestChoice_j66 (fX0_bestChoice_l11 n) v1 v2 v3 v4 v5 v6 Y) else (bd (orI (xorI v1 (shlI 1 v6)) v2) 1024 (nm (Y.1.2 5 (Int.toNat (orI (xorI v1 (shlI 1 v6)) v2))) fun x105 => if wr v5 = 0 then (fX0_bestChoice_j56 (fX0_bestChoice_l11 n) v1 v2 v6 x105 Y) else (if wr v4 ≤ wr x105 then (fX0_bestChoice_j66 (fX0_bestChoice_l11 n) v1 v2 v3 v4 v5 v6 Y) else (fX0_bestChoice_j56 (fX0_bestChoice_l11 n) v1 v2 v6 x105 Y))))) := rfl
theorem c_best {T R : St} {q c : Nat → Nat} {k n u i S : Nat} (hQ : QC q c k n u) (hi : i < n) (hS : S < 2 ^ u) (hk : 1 ≤ pc S) (hb : ¬ S.testBit (q i) = true) (h8 : T.1 8 = (u : Int)) (hD : ∀ X, X < 2 ^ u → pc X = pc S → X.testBit (q i) = true → T.2 5 X = ((eE q c k n (i + 1) X : Nat) : Int)) : fX0_bestChoice (T, R) (S : Int) (shlI 1 (q i : Int)) = some (ch q c k n i S u, (T, R)) := by
  have hu := hQ.2.2.1
  have h1024 := pu hu
  obtain ⟨hq, hc⟩ := hQ.2.2.2 i hi
  obtain ⟨g, g0, -⟩ := ch_p (q := q) (c := c) (k := k) (n := n) (i := i) hu hS hk
  have h := loop_gen (O := Int × (St × St)) (σ := Int × Int × Int) (fun f v t => fX0_bestChoice_l11 f (S : Int) (shlI 1 (q i : Int)) v.1 v.2.1 v.2.2 (t : Int) (T, R)) (fun t => if ch q c k n i S t < 0 then (0, 0, 0) else (ch q c k n i S t, ((kE q c k n i S (ch q c k n i S t).toNat : Nat) : Int), 1)) (some (ch q c k n i S u, (T, R))) 0 u (by omega) (by omega) (fun f => ?_) (fun f t _ ht => ?_)
  · have e0 : ch q c k n i S 0 < 0 := by show (-1 : Int) < 0; decide
    simp only [if_pos e0] at h
    unfold fX0_bestChoice
    rw [nm_q, nm_q, nm_q, nm_q]
    exact h
  · have e : wr ((T, R).1.1 8) ≤ wr (u : Int) := by show wr (T.1 8) ≤ _; rw [h8]; exact Int.le_refl _
    simp only [if_neg (show ¬ ch q c k n i S u < 0 by omega)]
    rw [bc_s]
    rw [if_pos e]
    rfl
  · have e : ¬ wr ((T, R).1.1 8) ≤ wr (t : Int) := by show ¬ wr (T.1 8) ≤ _; rw [h8, wr_nat (by omega), wr_nat (by omega)]; omega
    have hwb := wr_bit (a := S) (t := t) (by omega) (by omega)
    have ec : ch q c k n i S (t + 1) = if S.testBit t = true ∧ (ch q c k n i S t < 0 ∨ kE q c k n i S t < kE q c k n i S (ch q c k n i S t).toNat) then (t : Int) else ch q c k n i S t := rfl
    by_cases z : S.testBit t = true
    · have nb : ¬ wr (andI (S : Int) (shlI 1 (t : Int))) = 0 := fun y => by rw [hwb.mp y] at z; cases z
      obtain ⟨x1, x2, x3⟩ := pc_sw hu hS z hq hb
      have hv : T.2 5 (clr S t ||| 2 ^ q i) = ((kE q c k n i S t : Nat) : Int) := hD _ x1 x2 x3
      have hle : kE q c k n i S t ≤ 300000 := eE_le hQ (by omega) x1
      have hb2 : clr S t ||| 2 ^ q i < 1024 := by omega
      by_cases y : ch q c k n i S t < 0
      · rw [if_pos ⟨z, Or.inl y⟩] at ec
        rw [ec]
        simp only [if_pos y, if_neg (show ¬ (t : Int) < 0 by omega), Int.toNat_natCast]
        rw [bc_s]
        rw [if_neg e, if_neg nb, swp hu hS z hq, bd_n hb2, Int.toNat_natCast, nm_q, if_pos wl_0]
        show fX0_bestChoice_j56 (fX0_bestChoice_l11 f) (S : Int) (shlI 1 (q i : Int)) (t : Int) (T.2 5 (clr S t ||| 2 ^ q i)) (T, R) = _
        rw [hv]
        unfold fX0_bestChoice_j56 fX0_bestChoice_j66
        rw [nm_q, nm_q, nm_q, nm_q, up1]
      · obtain ⟨b, hb'⟩ := nat_of (show 0 ≤ ch q c k n i S t by omega)
        obtain ⟨-, w2, -, -⟩ := amin_first (c := fun x => S.testBit x = true) (kE q c k n i S) t b hb'
        obtain ⟨y1, -, -⟩ := pc_sw hu hS w2 hq hb
        have hle2 : kE q c k n i S b ≤ 300000 := eE_le hQ (by omega) y1
        rw [hb', Int.toNat_natCast] at ec
        by_cases w : kE q c k n i S t < kE q c k n i S b
        · rw [if_pos ⟨z, Or.inr w⟩] at ec
          rw [ec, hb']
          simp only [if_neg (show ¬ (b : Int) < 0 by omega), if_neg (show ¬ (t : Int) < 0 by omega), Int.toNat_natCast]
          have e4 : ¬ wr ((kE q c k n i S b : Nat) : Int) ≤ wr ((kE q c k n i S t : Nat) : Int) := by rw [wr_nat (by omega), wr_nat (by omega)]; omega
          rw [bc_s]
          rw [if_neg e, if_neg nb, swp hu hS z hq, bd_n hb2, Int.toNat_natCast, nm_q, if_neg w1, show (T, R).1.2 5 (clr S t ||| 2 ^ q i) = ((kE q c k n i S t : Nat) : Int) from hv, if_neg e4]
          unfold fX0_bestChoice_j56 fX0_bestChoice_j66
          rw [nm_q, nm_q, nm_q, nm_q, up1]
        · rw [if_neg (fun v => by rcases v.2 with v | v <;> omega)] at ec
          rw [ec, hb']
          simp only [if_neg (show ¬ (b : Int) < 0 by omega), Int.toNat_natCast]
          have e4 : wr ((kE q c k n i S b : Nat) : Int) ≤ wr ((kE q c k n i S t : Nat) : Int) := by rw [wr_nat (by omega), wr_nat (by omega)]; omega
          rw [bc_s]
          rw [if_neg e, if_neg nb, swp hu hS z hq, bd_n hb2, Int.toNat_natCast, nm_q, if_neg w1, show (T, R).1.2 5 (clr S t ||| 2 ^ q i) = ((kE q c k n i S t : Nat) : Int) from hv, if_pos e4]
          unfold fX0_bestChoice_j66
          rw [nm_q, up1]
    · have nb : wr (andI (S : Int) (shlI 1 (t : Int))) = 0 := hwb.mpr (by simpa using z)
      rw [if_neg (fun y => z y.1)] at ec
      rw [ec]
      rw [bc_s]
      rw [if_neg e, if_pos nb]
      unfold fX0_bestChoice_j66
      rw [nm_q, up1]
theorem kc_4 {j : Nat} (hj : j < 252) : shrI (j : Int) 4 = ((j / 16 : Nat) : Int) := shr_n (a := j) (t := 4) (by omega) (by decide)
theorem kc_15 {j : Nat} (hj : j < 252) : andI (j : Int) 15 * 4 = ((j % 16 * 4 : Nat) : Int) := by
  have h := and_nat (a := j) (b := 15) (by omega)
  have e : j &&& 15 = j % 16 := Nat.and_two_pow_sub_one_eq_mod j 4
  rw [e] at h
  rw [show (15 : Int) = ((15 : Nat) : Int) from rfl, h]
  omega
theorem c_keep {T R : St} {i j g : Nat} (hi : i < 300) (hj : j < 252) : fX0_keepChoice (T, R) (i : Int) (j : Int) (g : Int) = some (setA T 6 (i * 16 + j / 16) (kpv (T.2 6 (i * 16 + j / 16)) (j % 16) g), R) := by
  have h1 : (i : Int) * 16 + ((j / 16 : Nat) : Int) = ((i * 16 + j / 16 : Nat) : Int) := by omega
  unfold fX0_keepChoice
  rw [kc_4 hj, kc_15 hj, h1, nm_q, nm_q, bd_n (show i * 16 + j / 16 < 4800 by omega), bd_n (show i * 16 + j / 16 < 4800 by omega), Int.toNat_natCast, nm_q]
  rfl
theorem c_kept {T R : St} {i j : Nat} (hi : i < 300) (hj : j < 252) : fX0_keptChoice (T, R) (i : Int) (j : Int) = some (nbv (T.2 6 (i * 16 + j / 16)) (j % 16), (T, R)) := by
  have h1 : (i : Int) * 16 + ((j / 16 : Nat) : Int) = ((i * 16 + j / 16 : Nat) : Int) := by omega
  unfold fX0_keptChoice
  rw [kc_4 hj, kc_15 hj, h1, nm_q, bd_n (show i * 16 + j / 16 < 4800 by omega), Int.toNat_natCast]
  rfl
/-- what stands fast in the table while it is filled -/
def TS (T : St) (n : Nat) (r q : Nat → Nat) (k u : Nat) : Prop := T.1 8 = (u : Int) ∧ T.1 9 = ((fc k (2 ^ u) : Nat) : Int) ∧ (∀ i, i < n → r i < 16 ∧ T.2 1 (r i) = (q i : Int)) ∧ ∀ x, x < 2 ^ u → pc x = k → T.2 4 x = ((fc k x : Nat) : Int) ∧ T.2 3 (fc k x) = (x : Int)
def FF (T T' : St) : Prop := T'.1 = T.1 ∧ ∀ a x, a ≠ 5 → a ≠ 6 → T'.2 a x = T.2 a x
theorem FF_tr {A B C : St} (h : FF A B) (g : FF B C) : FF A C := ⟨g.1.trans h.1, fun a x p q => (g.2 a x p q).trans (h.2 a x p q)⟩
theorem TS_ff {T T' : St} {n : Nat} {r q : Nat → Nat} {k u : Nat} (h : TS T n r q k u) (g : FF T T') : TS T' n r q k u := by
  obtain ⟨h1, h2, h3, h4⟩ := h
  refine ⟨by rw [g.1]; exact h1, by rw [g.1]; exact h2, fun i hi => ⟨(h3 i hi).1, (g.2 1 _ (by decide) (by decide)).trans (h3 i hi).2⟩, fun x hx hp => ?_⟩
  exact ⟨(g.2 4 _ (by decide) (by decide)).trans (h4 x hx hp).1, (g.2 3 _ (by decide) (by decide)).trans (h4 x hx hp).2⟩
/-- the choices of asking i among the first j full masks are kept -/
def CI (T : St) (q c : Nat → Nat) (k n u i j : Nat) : Prop := ∀ X, X < 2 ^ u → pc X = k → ¬ X.testBit (q i) = true → fc k X < j → nbv (T.2 6 (i * 16 + fc k X / 16)) (fc k X % 16) = ch q c k n i X 10
def DI (T : St) (q c : Nat → Nat) (k n u i j : Nat) : Prop := ∀ X, X < 2 ^ u → pc X = k → (X.testBit (q i) = true ∨ fc k X < j) → T.2 5 X = ((eE q c k n i X : Nat) : Int)
def F6 (T T' : St) (i : Nat) : Prop := ∀ y, (∀ z, z < 16 → y ≠ i * 16 + z) → T'.2 6 y = T.2 6 y
theorem c_fill_l {R M : St} {q c r p : Nat → Nat} {k n u i : Nat} (hQ : QC q c k n u) (hM : RR R M n r p) (hi : i < n) : ∀ (d j f : Nat) (T : St), TS T n r q k u → DI T q c k n u i j → CI T q c k n u i j → j + d = fc k (2 ^ u) → d < f → ∃ T', fX0_fillAsking_l29 f (i : Int) (shlI 1 (q i : Int)) (c i : Int) (j : Int) (T, R) = some (T', R) ∧ DI T' q c k n u i (fc k (2 ^ u)) ∧ CI T' q c k n u i (fc k (2 ^ u)) ∧ FF T T' ∧ F6 T T' i := by
  have hu := hQ.2.2.1
  have hn := hQ.1
  have hk8 := hQ.2.1
  have h1024 := pu hu
  have hfl := fc_le (k := k) (m := 2 ^ u) hk8.2 h1024
  obtain ⟨hq, hc⟩ := hQ.2.2.2 i hi
  intro d
  induction d with
  | zero =>
    intro j f T hT hD hC hs hf
    obtain ⟨f', rfl⟩ : ∃ f', f = f' + 1 := ⟨f - 1, by omega⟩
    have hsn : j = fc k (2 ^ u) := by omega
    have e : wr ((T, R).1.1 9) ≤ wr (j : Int) := by show wr (T.1 9) ≤ _; rw [hT.2.1, hsn]; exact Int.le_refl _
    refine ⟨T, ?_, hsn ▸ hD, hsn ▸ hC, ⟨rfl, fun _ _ _ _ => rfl⟩, fun _ _ => rfl⟩
    unfold fX0_fillAsking_l29
    rw [if_pos e]
  | succ d ih =>
    intro j f T hT hD hC hs hf
    obtain ⟨f', rfl⟩ : ∃ f', f = f' + 1 := ⟨f - 1, by omega⟩
    have e : ¬ wr ((T, R).1.1 9) ≤ wr (j : Int) := by show ¬ wr (T.1 9) ≤ _; rw [hT.2.1, wr_nat (by omega), wr_nat (by omega)]; omega
    obtain ⟨X, hX, hp, hj⟩ := cn_ex (c := fun S => pc S = k) (2 ^ u) j (show j < fc k (2 ^ u) by omega)
    have hj : fc k X = j := hj
    have h3 : T.2 3 j = (X : Int) := by rw [← hj]; exact (hT.2.2.2 X hX hp).2
    have hwb := wr_bit (a := X) (t := q i) (by omega) (by omega)
    by_cases z : X.testBit (q i) = true
    · have nb : ¬ wr (andI (X : Int) (shlI 1 (q i : Int))) = 0 := fun y => by rw [hwb.mp y] at z; cases z
      have hD1 : DI T q c k n u i (j + 1) := fun Z hZ hpZ hc' => by
        refine hD Z hZ hpZ ?_
        rcases hc' with y | y
        · exact Or.inl y
        · by_cases w : fc k Z = j
          · have : Z = X := fc_inj hpZ hp (by omega)
            exact Or.inl (this ▸ z)
          · exact Or.inr (by omega)
      have hC1 : CI T q c k n u i (j + 1) := fun Z hZ hpZ hb hc' => by
        refine hC Z hZ hpZ hb ?_
        by_cases w : fc k Z = j
        · have : Z = X := fc_inj hpZ hp (by omega)
          rw [this] at hb
          exact absurd z hb
        · omega
      obtain ⟨T', g1, g2⟩ := ih (j + 1) f' T hT hD1 hC1 (by omega) (by omega)
      refine ⟨T', ?_, g2⟩
      unfold fX0_fillAsking_l29 fX0_fillAsking_j95
      rw [if_neg e, bd_n (show j < 252 by omega), Int.toNat_natCast, show (T, R).1.2 3 j = (X : Int) from h3, nm_q, if_neg nb, nm_q, up1]
      exact g1
    · have nb : wr (andI (X : Int) (shlI 1 (q i : Int))) = 0 := hwb.mpr (by simpa using z)
      obtain ⟨g, g0, g10, gu, gb, gl, gf⟩ := ch_p (q := q) (c := c) (k := k) (n := n) (i := i) hu hX (by omega)
      have hE := eE_full hQ hi hX hp z gb gl
      have hDn : ∀ Y, Y < 2 ^ u → pc Y = pc X → Y.testBit (q i) = true → T.2 5 Y = ((eE q c k n (i + 1) Y : Nat) : Int) := fun Y hY hpY hbY => by
        have h := hD Y hY (hpY.trans hp) (Or.inl hbY)
        rw [eE_s hi, if_neg (by omega), if_pos hbY] at h
        exact h
      have hbest := c_best (R := R) hQ hi hX (by omega) z hT.1 hDn
      rw [g0] at hbest
      obtain ⟨x1, x2, x3⟩ := pc_sw hu hX gb hq z
      have hval : (c i : Int) + T.2 5 (clr X g ||| 2 ^ q i) = ((eE q c k n i X : Nat) : Int) := by
        rw [hDn _ x1 x2 x3, hE]
        unfold kE
        omega
      obtain ⟨T1, hT1⟩ : ∃ T1, T1 = setA (setA T 5 X ((eE q c k n i X : Nat) : Int)) 6 (i * 16 + j / 16) (kpv (T.2 6 (i * 16 + j / 16)) (j % 16) g) := ⟨_, rfl⟩
      have f5 : ∀ y, T1.2 5 y = if y = X then ((eE q c k n i X : Nat) : Int) else T.2 5 y := fun y => by rw [hT1, sA2, if_neg (by decide), sA2, if_pos rfl]
      have f6 : ∀ y, T1.2 6 y = if y = i * 16 + j / 16 then kpv (T.2 6 (i * 16 + j / 16)) (j % 16) g else T.2 6 y := fun y => by simp only [hT1, sA2, ↓reduceIte, Nat.reduceEqDiff]
      have hF1 : FF T T1 := ⟨by rw [hT1]; rfl, fun a x h5 h6 => by rw [hT1, sA2, if_neg h6, sA2, if_neg h5]⟩
      have hG1 : F6 T T1 i := fun y hy => by rw [f6, if_neg (hy (j / 16) (by omega))]
      have hD1 : DI T1 q c k n u i (j + 1) := fun Z hZ hpZ hc' => by
        rw [f5]
        by_cases w : Z = X
        · rw [if_pos w, w]
        · rw [if_neg w]
          refine hD Z hZ hpZ ?_
          rcases hc' with y | y
          · exact Or.inl y
          · by_cases v : fc k Z = j
            · exact absurd (fc_inj hpZ hp (by omega)) w
            · exact Or.inr (by omega)
      have hC1 : CI T1 q c k n u i (j + 1) := fun Z hZ hpZ hb hc' => by
        rw [f6]
        by_cases w : fc k Z = j
        · have hZX : Z = X := fc_inj hpZ hp (by omega)
          rw [w, if_pos rfl, nb_set (by omega) (by omega), hZX, g10]
        · have hlt : fc k Z < j := by omega
          have h0 := hC Z hZ hpZ hb hlt
          by_cases v : i * 16 + fc k Z / 16 = i * 16 + j / 16
          · rw [if_pos v, nb_other (by omega) (by omega) (by omega) (by omega), ← v]
            exact h0
          · rw [if_neg v]; exact h0
      obtain ⟨T', g1, g2, g3, g4, g5⟩ := ih (j + 1) f' T1 (TS_ff hT hF1) hD1 hC1 (by omega) (by omega)
      refine ⟨T', ?_, g2, g3, FF_tr hF1 g4, fun y hy => (g5 y hy).trans (hG1 y hy)⟩
      have hk := c_keep (T := setA T 5 X ((eE q c k n i X : Nat) : Int)) (R := R) (i := i) (j := j) (g := g) (by omega) (by omega)
      rw [show (setA T 5 X ((eE q c k n i X : Nat) : Int)).2 6 (i * 16 + j / 16) = T.2 6 (i * 16 + j / 16) by rw [sA2, if_neg (by decide)], ← hT1] at hk
      unfold fX0_fillAsking_l29
      rw [if_neg e, bd_n (show j < 252 by omega), Int.toNat_natCast, show (T, R).1.2 3 j = (X : Int) from h3, nm_q, if_pos nb, hbest, cls_s, nm_q, swp hu hX gb hq, bd_n (show clr X g ||| 2 ^ q i < 1024 by omega), bd_n (show X < 1024 by omega), Int.toNat_natCast, Int.toNat_natCast, show (T, R).1.2 5 (clr X g ||| 2 ^ q i) = T.2 5 (clr X g ||| 2 ^ q i) from rfl, hval, nm_q]
      rw [show fX0_keepChoice (setA (T, R).1 5 X ((eE q c k n i X : Nat) : Int), (T, R).2) (i : Int) (j : Int) (g : Int) = some (T1, R) from hk, clv_s]
      unfold fX0_fillAsking_j95
      rw [nm_q, up1]
      exact g1
theorem c_fill {T R M : St} {q c r p : Nat → Nat} {k n u i : Nat} (hQ : QC q c k n u) (hM : RR R M n r p) (hc : ∀ i, i < n → c i = p (r i)) (hi : i < n) (hT : TS T n r q k u) (hD : ∀ X, X < 2 ^ u → pc X = k → T.2 5 X = ((eE q c k n (i + 1) X : Nat) : Int)) : ∃ T', fX0_fillAsking (T, R) (i : Int) = some (T', R) ∧ (∀ X, X < 2 ^ u → pc X = k → T'.2 5 X = ((eE q c k n i X : Nat) : Int)) ∧ (∀ X, X < 2 ^ u → pc X = k → ¬ X.testBit (q i) = true → nbv (T'.2 6 (i * 16 + fc k X / 16)) (fc k X % 16) = ch q c k n i X 10) ∧ FF T T' ∧ F6 T T' i := by
  have hn := hQ.1
  have h1024 := pu hQ.2.2.1
  have hfl := fc_le (k := k) (m := 2 ^ u) hQ.2.1.2 h1024
  obtain ⟨a, b1, b2⟩ := hM.2.2.2.1 i hi
  obtain ⟨-, -, hp1, hp2⟩ := hM.2.2.2.2 (r i) a
  have epr : fX1_priceAt R (i : Int) = some ((c i : Int), R) := by
    unfold fX1_priceAt
    rw [bd_n (show i < 300 by omega), Int.toNat_natCast, b1, bd_n a, Int.toNat_natCast, hp1, hc i hi]
  have h0 : DI T q c k n u i 0 := fun X hX hp hb => by
    rcases hb with y | y
    · rw [hD X hX hp, eE_s hi, if_neg (by omega), if_pos y]
    · exact absurd y (Nat.not_lt_zero _)
  obtain ⟨T', g1, g2, g3, g4, g5⟩ := c_fill_l hQ hM hi (fc k (2 ^ u)) 0 FU T hT h0 (fun X _ _ _ h => absurd h (Nat.not_lt_zero _)) (by omega) (FU_gt (by omega))
  refine ⟨T', ?_, fun X hX hp => g2 X hX hp (Or.inr (fc_lt hX hp)), fun X hX hp hb => g3 X hX hp hb (fc_lt hX hp), g4, g5⟩
  unfold fX0_fillAsking
  rw [bd_n (show i < 300 by omega), Int.toNat_natCast, show (T, R).2.2 0 i = (r i : Int) from b1, bd_n a, Int.toNat_natCast, show (T, R).1.2 1 (r i) = (q i : Int) from (hT.2.2.1 i hi).2, nm_q, show fX1_priceAt (T, R).2 (i : Int) = _ from epr, cls_s, nm_q, nm_q]
  exact g1
