/-! the judge's table: the plan -/
/-- the choices of the askings from s on are kept -/
def CK (T : St) (q c : Nat → Nat) (k n u s : Nat) : Prop := ∀ i, s ≤ i → i < n → ∀ X, X < 2 ^ u → pc X = k → ¬ X.testBit (q i) = true → nbv (T.2 6 (i * 16 + fc k X / 16)) (fc k X % 16) = ch q c k n i X 10
def F7 (T T' : St) : Prop := T'.1 = T.1 ∧ ∀ a x, a ≠ 7 → T'.2 a x = T.2 a x
theorem F7_tr {A B C : St} (h : F7 A B) (g : F7 B C) : F7 A C := ⟨g.1.trans h.1, fun a x p => (g.2 a x p).trans (h.2 a x p)⟩
theorem c_follow_l {R M : St} {q c r p th : Nat → Nat} {k n u : Nat} (hQ : QC q c k n u) (hM : RR R M n r p) : ∀ (d s f : Nat) (T : St), TS T n r q k u → (∀ g, g < u → T.2 2 g = (th g : Int)) → CK T q c k n u s → (s < n → pc (sE q c k n s) = k) → s + d = n → d < f → ∃ T', fX0_followChoices_l5 f ((sE q c k n s : Nat) : Int) (s : Int) (T, R) = some (T', R) ∧ F7 T T' ∧ (∀ x, x < s → T'.2 7 x = T.2 7 x) ∧ ∀ x, s ≤ x → x < n → (gE q c k n x = -1 → T'.2 7 x = T.2 7 x) ∧ ∀ g : Nat, gE q c k n x = (g : Int) → T'.2 7 x = (th g : Int) := by
  have hu := hQ.2.2.1
  have hn := hQ.1
  have hk8 := hQ.2.1
  have h1024 := pu hu
  intro d
  induction d with
  | zero =>
    intro s f T hT hth hC hp hs hf
    obtain ⟨f', rfl⟩ : ∃ f', f = f' + 1 := ⟨f - 1, by omega⟩
    have hsn : s = n := by omega
    have e : wr ((T, R).2.1 4) ≤ wr (s : Int) := by show wr (R.1 4) ≤ _; rw [hM.1, hsn]; exact Int.le_refl _
    refine ⟨T, ?_, ⟨rfl, fun _ _ _ => rfl⟩, fun _ _ => rfl, fun x h1 h2 => by omega⟩
    unfold fX0_followChoices_l5
    rw [if_pos e]
  | succ d ih =>
    intro s f T hT hth hC hp hs hf
    obtain ⟨f', rfl⟩ : ∃ f', f = f' + 1 := ⟨f - 1, by omega⟩
    have hsn : s < n := by omega
    have e : ¬ wr ((T, R).2.1 4) ≤ wr (s : Int) := by show ¬ wr (R.1 4) ≤ _; rw [hM.1, wr_nat (by omega), wr_nat (by omega)]; omega
    have hp := hp hsn
    obtain ⟨hX, -⟩ := sE_b hQ s (by omega)
    have hpS := sE_full hQ hsn hp
    obtain ⟨hq, hc⟩ := hQ.2.2.2 s hsn
    obtain ⟨a, b1, b2⟩ := hM.2.2.2.1 s hsn
    have hwb := wr_bit (a := sE q c k n s) (t := q s) (by omega) (by omega)
    have hss := sE_s q c k n s
    have hg : gE q c k n s = if (sE q c k n s).testBit (q s) = true then -1 else if pc (sE q c k n s) < k then -1 else ch q c k n s (sE q c k n s) 10 := rfl
    by_cases z : (sE q c k n s).testBit (q s) = true
    · have nb : ¬ wr (andI ((sE q c k n s : Nat) : Int) (shlI 1 (q s : Int))) = 0 := fun y => by rw [hwb.mp y] at z; cases z
      rw [if_pos z] at hss hg
      obtain ⟨T', g1, g2, g3, g4⟩ := ih (s + 1) f' T hT hth (fun i h1 => hC i (by omega)) (fun _ => hpS) (by omega) (by omega)
      refine ⟨T', ?_, g2, fun x hx => g3 x (by omega), fun x h1 h2 => ?_⟩
      · rw [hss] at g1
        unfold fX0_followChoices_l5 fX0_followChoices_j81
        rw [if_neg e, bd_n (show s < 300 by omega), Int.toNat_natCast, show (T, R).2.2 0 s = (r s : Int) from b1, bd_n a, Int.toNat_natCast, show (T, R).1.2 1 (r s) = (q s : Int) from (hT.2.2.1 s hsn).2, nm_q, if_neg nb, nm_q, up1]
        exact g1
      · by_cases w : x = s
        · subst w
          exact ⟨fun _ => g3 x (by omega), fun g y => by omega⟩
        · exact g4 x (by omega) h2
    · have nb : wr (andI ((sE q c k n s : Nat) : Int) (shlI 1 (q s : Int))) = 0 := hwb.mpr (by simpa using z)
      obtain ⟨g, g0, g10, gu, gb, gl, gf⟩ := ch_p (q := q) (c := c) (k := k) (n := n) (i := s) hu hX (by omega)
      rw [if_neg z, if_neg (by omega), g10] at hss hg
      rw [Int.toNat_natCast] at hss
      have hfl := fc_lt hX hp
      have hf2 := fc_le (k := k) (m := 2 ^ u) hk8.2 h1024
      have h4 := (hT.2.2.2 _ hX hp).1
      have hk := c_kept (T := T) (R := R) (i := s) (j := fc k (sE q c k n s)) (by omega) (by omega)
      rw [hC s (Nat.le_refl _) hsn _ hX hp z, g10] at hk
      have hF1 : F7 T (setA T 7 s (th g : Int)) := ⟨rfl, fun a x h7 => by rw [sA2, if_neg h7]⟩
      have f7 : ∀ x, (setA T 7 s (th g : Int)).2 7 x = if x = s then (th g : Int) else T.2 7 x := fun x => by rw [sA2, if_pos rfl]
      have hT1 : TS (setA T 7 s (th g : Int)) n r q k u := by
        obtain ⟨t1, t2, t3, t4⟩ := hT
        exact ⟨t1, t2, fun i hi => ⟨(t3 i hi).1, (hF1.2 1 _ (by decide)).trans (t3 i hi).2⟩, fun x hx hp => ⟨(hF1.2 4 _ (by decide)).trans (t4 x hx hp).1, (hF1.2 3 _ (by decide)).trans (t4 x hx hp).2⟩⟩
      obtain ⟨T', g1, g2, g3, g4⟩ := ih (s + 1) f' (setA T 7 s (th g : Int)) hT1 (fun x hx => (hF1.2 2 _ (by decide)).trans (hth x hx)) (fun i h1 h2 X x1 x2 x3 => by rw [hF1.2 6 _ (by decide)]; exact hC i (by omega) h2 X x1 x2 x3) (fun _ => hpS) (by omega) (by omega)
      refine ⟨T', ?_, F7_tr hF1 g2, fun x hx => ?_, fun x h1 h2 => ?_⟩
      · rw [hss] at g1
        unfold fX0_followChoices_l5
        rw [if_neg e, bd_n (show s < 300 by omega), Int.toNat_natCast, show (T, R).2.2 0 s = (r s : Int) from b1, bd_n a, Int.toNat_natCast, show (T, R).1.2 1 (r s) = (q s : Int) from (hT.2.2.1 s hsn).2, nm_q, if_pos nb, bd_n (show sE q c k n s < 1024 by omega), Int.toNat_natCast, show (T, R).1.2 4 (sE q c k n s) = ((fc k (sE q c k n s) : Nat) : Int) from h4, hk, cls_s, nm_q, bd_n (show g < 16 by omega), bd_n (show s < 300 by omega), Int.toNat_natCast, show (T, R).1.2 2 g = (th g : Int) from hth g gu, nm_q, swp hu hX gb hq, nm_q]
        unfold fX0_followChoices_j81
        rw [nm_q, up1]
        exact g1
      · rw [g3 x (by omega), f7, if_neg (by omega)]
      · by_cases w : x = s
        · subst w
          refine ⟨fun y => by omega, fun g' y => ?_⟩
          have : g' = g := by omega
          rw [g3 x (by omega), f7, if_pos rfl, this]
        · obtain ⟨y1, y2⟩ := g4 x (by omega) h2
          refine ⟨fun y => ?_, y2⟩
          rw [y1 y, f7, if_neg w]
/-- the table while it is filled, down to asking m -/
def IV (T : St) (r q c : Nat → Nat) (k n u m : Nat) : Prop := TS T n r q k u ∧ (∀ X, X < 2 ^ u → pc X = k → T.2 5 X = ((eE q c k n m X : Nat) : Int)) ∧ CK T q c k n u m ∧ (m = n → ∀ X, X < 2 ^ u → T.2 5 X = 0)
theorem c_l122 {R M : St} {q c r p : Nat → Nat} {k n u st : Nat} {mask : Int} (hQ : QC q c k n u) (hM : RR R M n r p) (hc : ∀ i, i < n → c i = p (r i)) : ∀ (d m f : Nat) (T : St), m = st + d → m ≤ n → d < f → IV T r q c k n u m → ∃ T', fX0_prepare_l122 f mask (st : Int) ((m : Int) - 1) (T, R) = fX0_prepare_j140 mask (st : Int) (T', R) ∧ IV T' r q c k n u st ∧ FF T T' := by
  have hn := hQ.1
  have h1024 := pu hQ.2.2.1
  have hf2 := fc_le (k := k) (m := 2 ^ u) hQ.2.1.2 h1024
  intro d
  induction d with
  | zero =>
    intro m f T hm hmn hf h
    obtain ⟨f', rfl⟩ : ∃ f', f = f' + 1 := ⟨f - 1, by omega⟩
    have hm : m = st := by omega
    subst hm
    have e : wr ((m : Int) - 1) < wr (m : Int) := by rw [wr_id (by omega), wr_nat (by omega)]; omega
    refine ⟨T, ?_, h, rfl, fun _ _ _ _ => rfl⟩
    unfold fX0_prepare_l122
    rw [if_pos e]
  | succ d ih =>
    intro m f T hm hmn hf h
    obtain ⟨f', rfl⟩ : ∃ f', f = f' + 1 := ⟨f - 1, by omega⟩
    obtain ⟨i, rfl⟩ : ∃ i, m = i + 1 := ⟨m - 1, by omega⟩
    have em : ((i + 1 : Nat) : Int) - 1 = (i : Int) := by omega
    have e : ¬ wr (i : Int) < wr (st : Int) := by rw [wr_nat (by omega), wr_nat (by omega)]; omega
    obtain ⟨hT, hD, hC, -⟩ := h
    obtain ⟨T1, f1, f2, f3, f4, f5⟩ := c_fill hQ hM hc (show i < n by omega) hT hD
    have hI : IV T1 r q c k n u i := by
      refine ⟨TS_ff hT f4, f2, fun x h1 h2 X x1 x2 x3 => ?_, fun y => by omega⟩
      by_cases w : x = i
      · subst w; exact f3 X x1 x2 x3
      · have hfx := fc_lt x1 x2
        rw [f5 _ (fun z hz => by omega)]
        exact hC x (by omega) h2 X x1 x2 x3
    obtain ⟨T', g1, g2, g3⟩ := ih i f' T1 (by omega) (by omega) (by omega) hI
    refine ⟨T', ?_, g2, FF_tr f4 g3⟩
    rw [em]
    unfold fX0_prepare_l122
    rw [if_neg e, f1, clv_s, nm_q]
    exact g1
theorem c_l39 {R M : St} {q c r p : Nat → Nat} {k n u : Nat} (hQ : QC q c k n u) (hM : RR R M n r p) (hc : ∀ i, i < n → c i = p (r i)) : ∀ (d s f : Nat) (T : St), (∀ i, i < n → T.2 1 (r i) = (q i : Int)) → T.1 11 + ((eE q c k n s (sE q c k n s) : Nat) : Int) = ((eE q c k n 0 0 : Nat) : Int) → (∀ x, x < s → gE q c k n x = -1) → s + d = n → d < f → ∃ s' T', fX0_prepare_l39 f (k : Int) ((sE q c k n s : Nat) : Int) (s : Int) (T, R) = fX0_prepare_j111 ((sE q c k n s' : Nat) : Int) (s' : Int) (T', R) ∧ s' ≤ n ∧ (s' < n → pc (sE q c k n s') = k) ∧ T'.1 11 + ((eE q c k n s' (sE q c k n s') : Nat) : Int) = ((eE q c k n 0 0 : Nat) : Int) ∧ (∀ x, x < s' → gE q c k n x = -1) ∧ T'.2 = T.2 ∧ ∀ j, j ≠ 11 → T'.1 j = T.1 j := by
  have hn := hQ.1
  have hk8 := hQ.2.1
  have hu := hQ.2.2.1
  have h1024 := pu hu
  intro d
  induction d with
  | zero =>
    intro s f T h1 hE hg hs hf
    obtain ⟨f', rfl⟩ : ∃ f', f = f' + 1 := ⟨f - 1, by omega⟩
    have hsn : s = n := by omega
    have e : wr ((T, R).2.1 4) ≤ wr (s : Int) := by show wr (R.1 4) ≤ _; rw [hM.1, hsn]; exact Int.le_refl _
    refine ⟨s, T, ?_, by omega, fun y => by omega, hE, hg, rfl, fun _ _ => rfl⟩
    unfold fX0_prepare_l39
    rw [if_pos e]
  | succ d ih =>
    intro s f T h1 hE hg hs hf
    obtain ⟨f', rfl⟩ : ∃ f', f = f' + 1 := ⟨f - 1, by omega⟩
    have hsn : s < n := by omega
    have e : ¬ wr ((T, R).2.1 4) ≤ wr (s : Int) := by show ¬ wr (R.1 4) ≤ _; rw [hM.1, wr_nat (by omega), wr_nat (by omega)]; omega
    obtain ⟨hX, hpk⟩ := sE_b hQ s (by omega)
    obtain ⟨hq, hc'⟩ := hQ.2.2.2 s hsn
    obtain ⟨a, b1, b2⟩ := hM.2.2.2.1 s hsn
    obtain ⟨-, -, hp1, hp2⟩ := hM.2.2.2.2 (r s) a
    by_cases w : pc (sE q c k n s) < k
    · have e2 : ¬ wr (k : Int) ≤ wr ((pc (sE q c k n s) : Nat) : Int) := by rw [wr_nat (by omega), wr_nat (by omega)]; omega
      have hwb := wr_bit (a := sE q c k n s) (t := q s) (by omega) (by omega)
      obtain ⟨l1, l2⟩ := sE_low (q := q) (c := c) (n := n) w
      have hss := sE_s q c k n s
      have hes := eE_s (q := q) (c := c) (k := k) hsn (sE q c k n s)
      rw [if_neg (show ¬ k < pc (sE q c k n s) by omega)] at hes
      have hg1 : ∀ x, x < s + 1 → gE q c k n x = -1 := fun x hx => by
        by_cases y : x = s
        · rw [y]; exact l2
        · exact hg x (by omega)
      have epr : fX1_priceAt R (s : Int) = some ((c s : Int), R) := by
        unfold fX1_priceAt
        rw [bd_n (show s < 300 by omega), Int.toNat_natCast, b1, bd_n a, Int.toNat_natCast, hp1, hc s hsn]
      by_cases z : (sE q c k n s).testBit (q s) = true
      · have nb : ¬ wr (andI ((sE q c k n s : Nat) : Int) (shlI 1 (q s : Int))) = 0 := fun y => by rw [hwb.mp y] at z; cases z
        rw [if_pos z] at hes hss
        obtain ⟨s', T', g1, g2⟩ := ih (s + 1) f' T h1 (by rw [hss, ← hes]; exact hE) hg1 (by omega) (by omega)
        refine ⟨s', T', ?_, g2⟩
        rw [l1] at g1
        unfold fX0_prepare_l39
        rw [if_neg e, e_pc (by omega), clp_s, if_neg e2, bd_n (show s < 300 by omega), Int.toNat_natCast, show (T, R).2.2 0 s = (r s : Int) from b1, bd_n a, Int.toNat_natCast, show (T, R).1.2 1 (r s) = (q s : Int) from h1 s hsn, nm_q, if_neg nb]
        unfold fX0_prepare_j100
        rw [(or_bit (a := sE q c k n s) (t := q s) (by omega) (by omega)).1, nm_q, nm_q, up1]
        exact g1
      · have nb : wr (andI ((sE q c k n s : Nat) : Int) (shlI 1 (q s : Int))) = 0 := hwb.mpr (by simpa using z)
        rw [if_neg z, if_pos w] at hes
        obtain ⟨s', T', g1, g2, g3, g4, g5, g6, g7⟩ := ih (s + 1) f' (setI T 11 (T.1 11 + (c s : Int))) h1 (by rw [sI1, if_pos rfl, l1]; omega) hg1 (by omega) (by omega)
        refine ⟨s', T', ?_, g2, g3, g4, g5, g6, fun j hj => by rw [g7 j hj, sI1, if_neg hj]⟩
        rw [l1] at g1
        unfold fX0_prepare_l39
        rw [if_neg e, e_pc (by omega), clp_s, if_neg e2, bd_n (show s < 300 by omega), Int.toNat_natCast, show (T, R).2.2 0 s = (r s : Int) from b1, bd_n a, Int.toNat_natCast, show (T, R).1.2 1 (r s) = (q s : Int) from h1 s hsn, nm_q, if_pos nb, show fX1_priceAt (T, R).2 (s : Int) = _ from epr, cls_s, nm_q]
        unfold fX0_prepare_j100
        rw [(or_bit (a := sE q c k n s) (t := q s) (by omega) (by omega)).1, nm_q, nm_q, up1]
        exact g1
    · have e2 : wr (k : Int) ≤ wr ((pc (sE q c k n s) : Nat) : Int) := by rw [wr_nat (by omega), wr_nat (by omega)]; omega
      refine ⟨s, T, ?_, by omega, fun _ => by omega, hE, hg, rfl, fun _ _ => rfl⟩
      unfold fX0_prepare_l39
      rw [if_neg e, e_pc (by omega), clp_s, if_pos e2]
theorem c_prep {T R M : St} {r p th : Nat → Nat} {k n : Nat} (hM : RR R M n r p) (hk : 1 ≤ k ∧ k ≤ 8) (hu : bo r n 16 ≤ 10) (hth : ∀ t, t < 16 → (bt r n).testBit t = true → th (bo r n t) = t) (hne : ¬ wr (T.1 10) = wr (k : Int)) : ∃ T', fX0_prepare (T, R) (k : Int) = some (T', R) ∧ T'.1 10 = (k : Int) ∧ T'.1 11 = ((eE (qf r n) (pf r p) k n 0 0 : Nat) : Int) ∧ ∀ x, x < n → (gE (qf r n) (pf r p) k n x = -1 → T'.2 7 x = -1) ∧ ∀ g : Nat, gE (qf r n) (pf r p) k n x = (g : Int) → T'.2 7 x = (th g : Int) := by
  have hQ := QC_row hM hk hu
  have hn := hQ.1
  have h1024 := pu hu
  obtain ⟨T3, hT3⟩ : ∃ T3, T3 = setR (setI (setI T 10 (k : Int)) 11 0) 7 (fun j => if j < 300 then (-1) else (setI (setI T 10 (k : Int)) 11 0).2 7 j) := ⟨_, rfl⟩
  obtain ⟨T4, a1, a2, a3⟩ := c_number (T := T3) hM hu
  have i10 : T4.1 10 = (k : Int) := by rw [a3.1 10 (by decide), hT3]; rfl
  have i11 : T4.1 11 = 0 := by rw [a3.1 11 (by decide), hT3]; rfl
  have i7 : ∀ x, x < n → T4.2 7 x = -1 := fun x hx => by
    rw [a3.2 7 x (by decide) (by decide), hT3]
    show (if x < 300 then (-1 : Int) else _) = -1
    rw [if_pos (by omega)]
  obtain ⟨T5, b1, b2, b3⟩ := c_list (R := R) hu hk.2 a2.1 i10
  have j10 : T5.1 10 = (k : Int) := (b3.1 10 (by decide)).trans i10
  have j11 : T5.1 11 = 0 := (b3.1 11 (by decide)).trans i11
  have j7 : ∀ x, x < n → T5.2 7 x = -1 := fun x hx => (b3.2 7 x (by decide) (by decide) (by decide)).trans (i7 x hx)
  have hr : ∀ i, i < n → r i < 16 := fun i hi => (hM.2.2.2.1 i hi).1
  have j1 : ∀ i, i < n → T5.2 1 (r i) = ((qf r n i : Nat) : Int) := fun i hi => by
    rw [b3.2 1 _ (by decide) (by decide) (by decide)]
    exact (a2.2 (r i) (hr i hi) (bt_in hi)).1
  have j2 : ∀ g, g < bo r n 16 → T5.2 2 g = (th g : Int) := fun g hg => by
    rw [b3.2 2 _ (by decide) (by decide) (by decide)]
    obtain ⟨t, t1, t2, t3⟩ := cn_ex (c := fun x => (bt r n).testBit x = true) 16 g hg
    have t3 : bo r n t = g := t3
    rw [← t3, hth t t1 t2]
    exact (a2.2 t t1 t2).2
  have hTS : TS T5 n r (qf r n) k (bo r n 16) := ⟨(b3.1 8 (by decide)).trans a2.1, b2.1, fun i hi => ⟨hr i hi, j1 i hi⟩, fun x hx hp => (b2.2 x hx).2 hp⟩
  have hpf : ∀ i, i < n → pf r p i = p (r i) := fun _ _ => rfl
  obtain ⟨s, T6, c1, c2, c3, c4, c5, c6, c7⟩ := c_l39 hQ hM hpf n 0 FU T5 j1 (by rw [j11]; exact Int.zero_add _) (fun x hx => absurd hx (Nat.not_lt_zero _)) (by omega) (FU_gt (by omega))
  have hIV : IV T6 r (qf r n) (pf r p) k n (bo r n 16) n := by
    refine ⟨⟨(c7 8 (by decide)).trans hTS.1, (c7 9 (by decide)).trans hTS.2.1, by rw [c6]; exact hTS.2.2.1, by rw [c6]; exact hTS.2.2.2⟩, fun X hX hp => ?_, fun i h1 h2 => by omega, fun _ X hX => ?_⟩
    · rw [c6, eE_n]; exact (b2.2 X hX).1
    · rw [c6]; exact (b2.2 X hX).1
  obtain ⟨T7, d1, d2, d3⟩ := c_l122 (st := s) (mask := ((sE (qf r n) (pf r p) k n s : Nat) : Int)) hQ hM hpf (n - s) n FU T6 (by omega) (Nat.le_refl _) (FU_gt (by omega)) hIV
  obtain ⟨hX, hpk⟩ := sE_b hQ s c2
  have hdue : T7.2 5 (sE (qf r n) (pf r p) k n s) = ((eE (qf r n) (pf r p) k n s (sE (qf r n) (pf r p) k n s) : Nat) : Int) := by
    by_cases y : s = n
    · rw [d2.2.2.2 y _ hX, y, eE_n]; rfl
    · exact d2.2.1 _ hX (c3 (by omega))
  obtain ⟨T8, hT8⟩ : ∃ T8, T8 = setI T7 11 (T7.1 11 + T7.2 5 (sE (qf r n) (pf r p) k n s)) := ⟨_, rfl⟩
  have k2 : T8.2 = T7.2 := by rw [hT8]; rfl
  have k1 : ∀ j, j ≠ 11 → T8.1 j = T7.1 j := fun j hj => by rw [hT8, sI1, if_neg hj]
  have k11 : T8.1 11 = ((eE (qf r n) (pf r p) k n 0 0 : Nat) : Int) := by rw [hT8, sI1, if_pos rfl, hdue, d3.1]; exact c4
  have hTS8 : TS T8 n r (qf r n) k (bo r n 16) := ⟨(k1 8 (by decide)).trans d2.1.1, (k1 9 (by decide)).trans d2.1.2.1, by rw [k2]; exact d2.1.2.2.1, by rw [k2]; exact d2.1.2.2.2⟩
  have k10 : T8.1 10 = (k : Int) := by rw [k1 10 (by decide), d3.1, c7 10 (by decide)]; exact j10
  have k7 : ∀ x, x < n → T8.2 7 x = -1 := fun x hx => by rw [k2, d3.2 7 x (by decide) (by decide), c6]; exact j7 x hx
  obtain ⟨T9, e1, e2, e3, e4⟩ := c_follow_l (th := th) hQ hM (n - s) s FU T8 hTS8 (fun g hg => by rw [k2, d3.2 2 g (by decide) (by decide), c6]; exact j2 g hg) (by intro i h1 h2 X x1 x2 x3; rw [k2]; exact d2.2.2.1 i h1 h2 X x1 x2 x3) c3 (by omega) (FU_gt (by omega))
  refine ⟨T9, ?_, by rw [e2.1]; exact k10, by rw [e2.1]; exact k11, fun x hx => ?_⟩
  · unfold fX0_prepare
    rw [if_neg (show ¬ wr ((T, R).1.1 10) = wr (k : Int) from hne), nm_q, nm_q, nm_q]
    rw [show fX0_numberThings (setR (setI (setI (T, R).1 10 (k : Int), (T, R).2).1 11 0, (setI (T, R).1 10 (k : Int), (T, R).2).2).1 7 (fun j => if j < 300 then (-1) else (setI (setI (T, R).1 10 (k : Int), (T, R).2).1 11 0, (setI (T, R).1 10 (k : Int), (T, R).2).2).1.2 7 j), (setI (setI (T, R).1 10 (k : Int), (T, R).2).1 11 0, (setI (T, R).1 10 (k : Int), (T, R).2).2).2) = some (T4, R) from hT3 ▸ a1, clv_s, b1, clv_s, nm_q, nm_q]
    refine Eq.trans c1 ?_
    unfold fX0_prepare_j111
    rw [nm_q, show (T6, R).2.1 4 = (n : Int) from hM.1]
    refine Eq.trans d1 ?_
    unfold fX0_prepare_j140
    rw [bd_n (show sE (qf r n) (pf r p) k n s < 1024 by omega), nm_q]
    have e1' : fX0_followChoices (T8, R) ((sE (qf r n) (pf r p) k n s : Nat) : Int) (s : Int) = some (T9, R) := by
      unfold fX0_followChoices
      rw [nm_q, nm_q]
      exact e1
    rw [hT8] at e1'
    rw [Int.toNat_natCast]
    rw [show fX0_followChoices (setI (T7, R).1 11 ((T7, R).1.1 11 + (T7, R).1.2 5 (sE (qf r n) (pf r p) k n s)), (T7, R).2) ((sE (qf r n) (pf r p) k n s : Nat) : Int) (s : Int) = some (T9, R) from e1', clv_s]
  · by_cases w : x < s
    · refine ⟨fun _ => by rw [e3 x w]; exact k7 x hx, fun g y => ?_⟩
      rw [c5 x w] at y
      omega
    · obtain ⟨y1, y2⟩ := e4 x (by omega) hx
      exact ⟨fun y => by rw [y1 y]; exact k7 x hx, y2⟩
