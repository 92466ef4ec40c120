/-! the model's table: small pieces -/
theorem sb {a b : Nat} (ha : a < 65536) (hb : b < 16) : andI (shrI (a : Int) (b : Int)) 1 = if a.testBit b = true then 1 else 0 := by
  have h1 : a / 2 ^ b ≤ a := Nat.div_le_self _ _
  rw [shr_n (by omega) (by omega)]
  have h2 := and_nat (a := a / 2 ^ b) (b := 1) (by omega)
  rw [show ((1 : Nat) : Int) = 1 from rfl] at h2
  rw [h2, Nat.and_one_is_mod, Nat.testBit_eq_decide_div_mod_eq]
  rcases Nat.mod_two_eq_zero_or_one (a / 2 ^ b) with e | e <;> simp [e]
theorem w01 : ¬ wr 0 = wr 1 := by decide
theorem m_sizeOf {Y : St} {S : Nat} (hS : S < 1024) : fX4_sizeOf Y (S : Int) = some (((pc S : Nat) : Int), Y) := by
  rw [← pc_10 hS]
  refine loop_gen (fun f v t => fX4_sizeOf_l4 f (S : Int) v (t : Int) Y) (fun t => ((cn (fun x => S.testBit x = true) t : Nat) : Int)) _ 0 10 (by decide) (by decide) (fun f => ?_) (fun f t _ ht => ?_)
  · have e : wr 10 ≤ wr ((10 : Nat) : Int) := by decide
    simp only [fX4_sizeOf_l4]
    rw [if_pos e]
    rfl
  · have e : ¬ wr 10 ≤ wr (t : Int) := by rw [wl_10, wr_nat (by omega)]; omega
    simp only [fX4_sizeOf_l4]
    rw [if_neg e, nm_q, nm_q, sb (by omega) (by omega), up1, cn_s]
    by_cases q : S.testBit t = true
    · rw [if_pos q, if_pos q]; rfl
    · rw [if_neg q, if_neg q]; rfl
/-- row, bits and prices in the model -/
def MB (M : St) (n : Nat) (r q c : Nat → Nat) : Prop := M.1 2 = (n : Int) ∧ ∀ i, i < n → r i < 16 ∧ M.2 1 i = (r i : Int) ∧ M.2 29 (r i) = (q i : Int) ∧ M.2 0 (r i) = (c i : Int)
theorem m_bh15 {M : St} {n : Nat} {r q c : Nat → Nat} {i X x : Nat} (h : MB M n r q c) (hn : n ≤ 300) (hi : i < n) (hX : X < 1024) (hx : x < 10) : fX4_behind_j15 (i : Int) (x : Int) (X : Int) M = some ((c i : Int) + M.2 30 (1024 * (i + 1) + (X ||| 2 ^ x)), M) := by
  obtain ⟨a, b, d, e⟩ := h.2 i hi
  have h1 : X ||| 2 ^ x < 2 ^ 10 := or_lt (by simpa using hX) hx
  have h1 : X ||| 2 ^ x < 1024 := by simpa using h1
  have h2 : 1024 * ((i : Int) + 1) + ((X ||| 2 ^ x : Nat) : Int) = ((1024 * (i + 1) + (X ||| 2 ^ x) : Nat) : Int) := by omega
  unfold fX4_behind_j15
  rw [nm_q, (or_bit (a := X) (t := x) (by omega) (by omega)).1, h2, bd_n (show i < 300 by omega), Int.toNat_natCast, b, bd_n a, Int.toNat_natCast, e, bd_n (show 1024 * (i + 1) + (X ||| 2 ^ x) < 308224 by omega), Int.toNat_natCast]
theorem m_bh {M : St} {n : Nat} {r q c : Nat → Nat} {i S x b : Nat} (h : MB M n r q c) (hn : n ≤ 300) (hi : i < n) (hS : S < 1024) (hx : x < 10) (hb : b < 10) : fX4_behind M (i : Int) (S : Int) (b : Int) (x : Int) = some ((c i : Int) + M.2 30 (1024 * (i + 1) + (clr S b ||| 2 ^ x)), M) := by
  have e : 0 ≤ wr (b : Int) := by rw [wr_nat (by omega)]; omega
  unfold fX4_behind
  rw [if_pos e, and_not (by omega) (by omega)]
  exact m_bh15 h hn hi (clr_lt hS) hx
theorem m_bh_no {M : St} {n : Nat} {r q c : Nat → Nat} {i S x : Nat} (h : MB M n r q c) (hn : n ≤ 300) (hi : i < n) (hS : S < 1024) (hx : x < 10) : fX4_behind M (i : Int) (S : Int) (-1) (x : Int) = some ((c i : Int) + M.2 30 (1024 * (i + 1) + (S ||| 2 ^ x)), M) := by
  have e : ¬ 0 ≤ wr (-1) := by decide
  unfold fX4_behind
  rw [if_neg e]
  exact m_bh15 h hn hi hS hx
theorem m_l64 {M : St} {n u k : Nat} {r q c : Nat → Nat} {i S : Nat} (hQ : QC q c k n u) (h : MB M n r q c) (hi : i < n) (hS : S < 2 ^ u) (hT : ∀ X, X < 2 ^ u → M.2 30 (1024 * (i + 1) + X) = ((eE q c k n (i + 1) X : Nat) : Int)) : fX4_leastFor_l64 FU (i : Int) (S : Int) (q i : Int) 2147483647 0 M = some (((mE (fun b => c i + eE q c k n (i + 1) (clr S b ||| 2 ^ q i)) S 10 : Nat) : Int), M) := by
  have hu := hQ.2.2.1
  have h1024 := pu hu
  obtain ⟨hq, hc⟩ := hQ.2.2.2 i hi
  refine loop_gen (fun f v t => fX4_leastFor_l64 f (i : Int) (S : Int) (q i : Int) v (t : Int) M) (fun t => ((mE (fun b => c i + eE q c k n (i + 1) (clr S b ||| 2 ^ q i)) S t : Nat) : Int)) _ 0 10 (by decide) (by decide) (fun f => ?_) (fun f t _ ht => ?_)
  · have e : wr 10 ≤ wr ((10 : Nat) : Int) := by decide
    simp only [fX4_leastFor_l64]
    rw [if_pos e]
    rfl
  · have e : ¬ wr 10 ≤ wr (t : Int) := by rw [wl_10, wr_nat (by omega)]; omega
    have hm := (mE_p (fun b => c i + eE q c k n (i + 1) (clr S b ||| 2 ^ q i)) S t).2.1
    simp only [fX4_leastFor_l64]
    rw [if_neg e, sb (show S < 65536 by omega) (show t < 16 by omega)]
    show _ = fX4_leastFor_l64 f (i : Int) (S : Int) (q i : Int) ((if S.testBit t = true ∧ c i + eE q c k n (i + 1) (clr S t ||| 2 ^ q i) < mE (fun b => c i + eE q c k n (i + 1) (clr S b ||| 2 ^ q i)) S t then c i + eE q c k n (i + 1) (clr S t ||| 2 ^ q i) else mE (fun b => c i + eE q c k n (i + 1) (clr S b ||| 2 ^ q i)) S t : Nat) : Int) ((t + 1 : Nat) : Int) M
    by_cases z : S.testBit t = true
    · have hX := or_lt (clr_lt (t := t) hS) hq
      have hE := eE_le hQ (i := i + 1) (by omega) hX
      have hv : (c i : Int) + ((eE q c k n (i + 1) (clr S t ||| 2 ^ q i) : Nat) : Int) = ((c i + eE q c k n (i + 1) (clr S t ||| 2 ^ q i) : Nat) : Int) := by omega
      rw [if_pos z, if_pos rfl, m_bh h hQ.1 hi (by omega) (by omega) ht, cls_s, nm_q, hT _ hX, hv]
      unfold fX4_leastFor_j107 fX4_leastFor_j109
      by_cases y : c i + eE q c k n (i + 1) (clr S t ||| 2 ^ q i) < mE (fun b => c i + eE q c k n (i + 1) (clr S b ||| 2 ^ q i)) S t
      · have e2 : ¬ wr ((mE (fun b => c i + eE q c k n (i + 1) (clr S b ||| 2 ^ q i)) S t : Nat) : Int) ≤ wr ((c i + eE q c k n (i + 1) (clr S t ||| 2 ^ q i) : Nat) : Int) := by rw [wr_nat (by omega), wr_nat (by omega)]; omega
        rw [if_neg e2, if_pos ⟨z, y⟩, nm_q, nm_q, up1]
      · have e2 : wr ((mE (fun b => c i + eE q c k n (i + 1) (clr S b ||| 2 ^ q i)) S t : Nat) : Int) ≤ wr ((c i + eE q c k n (i + 1) (clr S t ||| 2 ^ q i) : Nat) : Int) := by rw [wr_nat (by omega), wr_nat (by omega)]; omega
        rw [if_pos e2, if_neg (fun w => y w.2), nm_q, nm_q, up1]
    · rw [if_neg z, if_neg w01, if_neg (fun w => z w.1)]
      unfold fX4_leastFor_j109
      rw [nm_q, up1]
theorem m_leastFor {M : St} {n u k : Nat} {r q c : Nat → Nat} {i S : Nat} (hQ : QC q c k n u) (h : MB M n r q c) (hi : i < n) (hS : S < 2 ^ u) (hk : pc S ≤ k) (hT : ∀ X, X < 2 ^ u → M.2 30 (1024 * (i + 1) + X) = ((eE q c k n (i + 1) X : Nat) : Int)) : fX4_leastFor M (i : Int) (S : Int) (k : Int) = some (((eE q c k n i S : Nat) : Int), M) := by
  have hu := hQ.2.2.1
  have hn := hQ.1
  have h1024 := pu hu
  obtain ⟨hq, hc⟩ := hQ.2.2.2 i hi
  obtain ⟨a, b, d, e⟩ := h.2 i hi
  have hp16 := pc_le S
  have hk8 := hQ.2.1.2
  unfold fX4_leastFor
  rw [bd_n (show i < 300 by omega), Int.toNat_natCast, b, bd_n a, Int.toNat_natCast, d, nm_q, sb (show S < 65536 by omega) (show q i < 16 by omega), eE_s hi, if_neg (show ¬ k < pc S by omega)]
  by_cases h1 : S.testBit (q i) = true
  · have h2 : 1024 * ((i : Int) + 1) + (S : Int) = ((1024 * (i + 1) + S : Nat) : Int) := by omega
    rw [if_pos h1, if_pos h1, if_pos rfl, h2, bd_n (show 1024 * (i + 1) + S < 308224 by omega), Int.toNat_natCast, hT S hS]
  · rw [if_neg h1, if_neg h1, if_neg w01, m_sizeOf (by omega), cls_s]
    by_cases h2 : pc S < k
    · have e2 : ¬ wr (k : Int) ≤ wr ((pc S : Nat) : Int) := by rw [wr_nat (by omega), wr_nat (by omega)]; omega
      rw [if_neg e2, if_pos h2, m_bh_no h hn hi (by omega) (by omega), cls_s, hT _ (or_lt hS hq)]
      congr 1
    · have e2 : wr (k : Int) ≤ wr ((pc S : Nat) : Int) := by rw [wr_nat (by omega), wr_nat (by omega)]; omega
      rw [if_pos e2, if_neg h2, nm_q, nm_q]
      exact m_l64 hQ h hi hS hT
/-- the model while it fills its table -/
def MS (M0 M : St) (n : Nat) (r q c : Nat → Nat) (k u i s : Nat) : Prop := MB M n r q c ∧ M.1 31 = ((2 ^ u : Nat) : Int) ∧ FR M0 M ∧ (∀ t, M.2 29 t = M0.2 29 t) ∧ ∀ j X, X < 2 ^ u → j ≤ n → (i < j ∨ (j = i ∧ X < s)) → M.2 30 (1024 * j + X) = ((eE q c k n j X : Nat) : Int)
theorem MS_set {M0 M : St} {n : Nat} {r q c : Nat → Nat} {k u i s : Nat} (hu : u ≤ 10) (h : MS M0 M n r q c k u i s) (hs : s < 2 ^ u) : MS M0 (setA M 30 (1024 * i + s) ((eE q c k n i s : Nat) : Int)) n r q c k u i (s + 1) := by
  have h1024 := pu hu
  obtain ⟨⟨h1, h2⟩, h3, h4, h5, h6⟩ := h
  refine ⟨⟨h1, fun x hx => ?_⟩, h3, FR_tr h4 ⟨fun _ _ => rfl, fun a t ha => by rw [sA2, if_neg (by omega)]⟩, fun t => ?_, fun j X hX hj hc => ?_⟩
  · obtain ⟨a, b, d, e⟩ := h2 x hx
    refine ⟨a, ?_, ?_, ?_⟩
    · rw [sA2, if_neg (by decide)]; exact b
    · rw [sA2, if_neg (by decide)]; exact d
    · rw [sA2, if_neg (by decide)]; exact e
  · rw [sA2, if_neg (by decide)]; exact h5 t
  · rw [sA2, if_pos rfl]
    by_cases z : 1024 * j + X = 1024 * i + s
    · have hj : j = i := by omega
      have hX : X = s := by omega
      rw [if_pos z, hj, hX]
    · rw [if_neg z]
      refine h6 j X hX hj ?_
      rcases hc with y | ⟨y, w⟩
      · exact Or.inl y
      · exact Or.inr ⟨y, by rw [y] at z; omega⟩
theorem m_l116 {M0 : St} {n : Nat} {r q c : Nat → Nat} {k u i : Nat} {K : Int → Int → St → Option (Int × St)} (hQ : QC q c k n u) (hi : i ≤ n) : ∀ (d s f : Nat) (M : St), MS M0 M n r q c k u i s → s + d = 2 ^ u → d < f → ∃ M', fX4_findLeast_l116 K f (k : Int) (i : Int) (s : Int) M = fX4_findLeast_j174 K (k : Int) (i : Int) M' ∧ MS M0 M' n r q c k u i (2 ^ u) := by
  have hu := hQ.2.2.1
  have hn := hQ.1
  have h1024 := pu hu
  intro d
  induction d with
  | zero =>
    intro s f M h hs hf
    obtain ⟨f', rfl⟩ : ∃ f', f = f' + 1 := ⟨f - 1, by omega⟩
    have hsn : s = 2 ^ u := by omega
    subst hsn
    have e : wr (M.1 31) ≤ wr ((2 ^ u : Nat) : Int) := by rw [h.2.1]; exact Int.le_refl _
    refine ⟨M, ?_, h⟩
    unfold fX4_findLeast_l116
    rw [if_pos e]
  | succ d ih =>
    intro s f M h hs hf
    obtain ⟨f', rfl⟩ : ∃ f', f = f' + 1 := ⟨f - 1, by omega⟩
    have hsu : s < 2 ^ u := by omega
    have e : ¬ wr (M.1 31) ≤ wr (s : Int) := by rw [h.2.1, wr_nat (by omega), wr_nat (by omega)]; omega
    obtain ⟨M', g1, g2⟩ := ih (s + 1) f' _ (MS_set hu h hsu) (by omega) (by omega)
    refine ⟨M', ?_, g2⟩
    have hidx : (1024 * (i : Int)) + (s : Int) = ((1024 * i + s : Nat) : Int) := by omega
    have fin : fX4_findLeast_j167 K (fX4_findLeast_l116 K f') (k : Int) (i : Int) (s : Int) ((eE q c k n i s : Nat) : Int) ((1024 * (i : Int)) + (s : Int)) M = fX4_findLeast_j174 K (k : Int) (i : Int) M' := by
      unfold fX4_findLeast_j167
      rw [hidx, bd_n (show 1024 * i + s < 308224 by omega), Int.toNat_natCast, nm_q, nm_q, up1]
      exact g1
    unfold fX4_findLeast_l116
    rw [if_neg e, h.1.1]
    by_cases z : i = n
    · have e2 : wr (i : Int) = wr (n : Int) := by rw [z]
      have e3 : eE q c k n i s = 0 := by rw [z]; exact eE_n _ _ _ _ _
      rw [e3] at fin
      rw [if_pos e2]
      unfold fX4_findLeast_j155
      exact fin
    · have e2 : ¬ wr (i : Int) = wr (n : Int) := by rw [wr_nat (by omega), wr_nat (by omega)]; omega
      rw [if_neg e2, m_sizeOf (by omega), cls_s]
      have hp := pc_le s
      have hk8 := hQ.2.1.2
      by_cases y : pc s ≤ k
      · have e3 : wr ((pc s : Nat) : Int) ≤ wr (k : Int) := by rw [wr_nat (by omega), wr_nat (by omega)]; omega
        rw [if_pos e3, m_leastFor hQ h.1 (by omega) hsu y (fun X hX => h.2.2.2.2 (i + 1) X hX (by omega) (Or.inl (by omega))), cls_s]
        exact fin
      · have e3 : ¬ wr ((pc s : Nat) : Int) ≤ wr (k : Int) := by rw [wr_nat (by omega), wr_nat (by omega)]; omega
        have e4 : eE q c k n i s = 0 := by rw [eE_s (by omega), if_pos (by omega)]
        rw [e4] at fin
        rw [if_neg e3]
        unfold fX4_findLeast_j155
        exact fin
theorem m_l109 {M0 : St} {n : Nat} {r q c : Nat → Nat} {k u : Nat} (hQ : QC q c k n u) : ∀ (m f : Nat) (M : St), m ≤ n + 1 → m < f → MS M0 M n r q c k u m (2 ^ u) → ∃ M', fX4_findLeast_l109 f (k : Int) ((m : Int) - 1) M = some (1, M') ∧ MS M0 M' n r q c k u 0 (2 ^ u) := by
  have hn := hQ.1
  have h1024 := pu hQ.2.2.1
  intro m
  induction m with
  | zero =>
    intro f M hm hf h
    obtain ⟨f', rfl⟩ : ∃ f', f = f' + 1 := ⟨f - 1, by omega⟩
    have e : wr (((0 : Nat) : Int) - 1) < 0 := by decide
    refine ⟨M, ?_, h⟩
    unfold fX4_findLeast_l109
    rw [if_pos e, cb_1]
  | succ m ih =>
    intro f M hm hf h
    obtain ⟨f', rfl⟩ : ∃ f', f = f' + 1 := ⟨f - 1, by omega⟩
    have em : ((m + 1 : Nat) : Int) - 1 = (m : Int) := by omega
    have e : ¬ wr (m : Int) < 0 := by rw [wr_nat (by omega)]; omega
    have h0 : MS M0 M n r q c k u m 0 := ⟨h.1, h.2.1, h.2.2.1, h.2.2.2.1, fun j X hX hj hc => h.2.2.2.2 j X hX hj (by omega)⟩
    obtain ⟨M1, g1, g2⟩ := m_l116 (K := fX4_findLeast_l109 f') hQ (i := m) (by omega) (2 ^ u) 0 FU M h0 (by omega) (FU_gt (by omega))
    obtain ⟨M', g3, g4⟩ := ih f' M1 (by omega) (by omega) g2
    refine ⟨M', ?_, g4⟩
    rw [em]
    unfold fX4_findLeast_l109
    rw [if_neg e, nm_q]
    refine Eq.trans g1 ?_
    unfold fX4_findLeast_j174
    rw [nm_q]
    exact g3
