/-! numbers of what is counted -/
theorem cn_s (c : Nat → Prop) [DecidablePred c] (t : Nat) : cn c (t + 1) = cn c t + (if c t then 1 else 0) := rfl
theorem cn_grow (c : Nat → Prop) [DecidablePred c] (t : Nat) : ∀ d, cn c t ≤ cn c (t + d) := by
  intro d
  induction d with
  | zero => exact Nat.le_refl _
  | succ d ih => rw [← Nat.add_assoc, cn_s]; omega
theorem cn_lt {c : Nat → Prop} [DecidablePred c] {x m : Nat} (hx : x < m) (hc : c x) : cn c x < cn c m := by
  have h := cn_grow c (x + 1) (m - (x + 1))
  rw [show x + 1 + (m - (x + 1)) = m by omega, cn_s, if_pos hc] at h
  omega
theorem cn_inj {c : Nat → Prop} [DecidablePred c] {x y : Nat} (hx : c x) (hy : c y) (h : cn c x = cn c y) : x = y := by
  rcases Nat.lt_trichotomy x y with q | q | q
  · have := cn_lt q hx; omega
  · exact q
  · have := cn_lt q hy; omega
theorem cn_ex {c : Nat → Prop} [DecidablePred c] : ∀ m j, j < cn c m → ∃ x, x < m ∧ c x ∧ cn c x = j := by
  intro m
  induction m with
  | zero => intro j h; exact absurd h (Nat.not_lt_zero _)
  | succ m ih =>
    intro j h
    by_cases q : j < cn c m
    · obtain ⟨x, a, b, e⟩ := ih j q
      exact ⟨x, by omega, b, e⟩
    · rw [cn_s] at h
      by_cases z : c m
      · rw [if_pos z] at h
        exact ⟨m, by omega, z, by omega⟩
      · rw [if_neg z] at h; omega
/-! the size of a set -/
def pc (S : Nat) : Nat := cn (fun t => S.testBit t = true) 16
theorem e_pc {S : Nat} (h : S < 65536) : fJ6_bitCount_0f7a4 (S : Int) = some ((pc S : Nat) : Int) := e_bitCount h
theorem pc_le (S : Nat) : pc S ≤ 16 := cn_le _ 16
theorem pc_or {S x : Nat} (hx : x < 16) : pc (S ||| 2 ^ x) = pc S + (if S.testBit x = true then 0 else 1) := cn_or1 hx
theorem pc_clr {S x : Nat} (hS : S < 65536) (hx : x < 16) (hb : S.testBit x = true) : pc (clr S x) + 1 = pc S := cn_clr hS hx hb
theorem bit_lt {S u t : Nat} (h : S < 2 ^ u) (hb : S.testBit t = true) : t < u := by
  by_cases q : t < u
  · exact q
  · have : S.testBit t = false := Nat.testBit_lt_two_pow (Nat.lt_of_lt_of_le h (Nat.pow_le_pow_right (by decide) (by omega)))
    rw [this] at hb; cases hb
theorem pu {u : Nat} (h : u ≤ 10) : 2 ^ u ≤ 1024 := by
  have : 2 ^ u ≤ 2 ^ 10 := Nat.pow_le_pow_right (by decide) h
  simpa using this
theorem or_lt {S u x : Nat} (hS : S < 2 ^ u) (hx : x < u) : S ||| 2 ^ x < 2 ^ u := Nat.or_lt_two_pow hS (Nat.pow_lt_pow_right (by decide) hx)
theorem pc_10 {S : Nat} (hS : S < 1024) : cn (fun t => S.testBit t = true) 10 = pc S := by
  have hf : ∀ t, 10 ≤ t → ¬ S.testBit t = true := fun t ht hb => by
    have := bit_lt (u := 10) (by simpa using hS) hb
    omega
  unfold pc
  rw [cn_s _ 15, cn_s _ 14, cn_s _ 13, cn_s _ 12, cn_s _ 11, cn_s _ 10, if_neg (hf 15 (by omega)), if_neg (hf 14 (by omega)), if_neg (hf 13 (by omega)), if_neg (hf 12 (by omega)), if_neg (hf 11 (by omega)), if_neg (hf 10 (by omega))]
  omega
theorem pc_0 : pc 0 = 0 := by decide
theorem pc_ex {S u : Nat} (hS : S < 2 ^ u) (h : 1 ≤ pc S) : ∃ t, t < u ∧ S.testBit t = true := by
  obtain ⟨t, -, b⟩ := cn_pos.mp (show 0 < cn (fun t => S.testBit t = true) 16 from h)
  exact ⟨t, bit_lt hS b, b⟩
theorem pc_sw {S u x y : Nat} (hu : u ≤ 10) (hS : S < 2 ^ u) (hx : S.testBit x = true) (hy : y < u) (hyb : ¬ S.testBit y = true) : clr S x ||| 2 ^ y < 2 ^ u ∧ pc (clr S x ||| 2 ^ y) = pc S ∧ (clr S x ||| 2 ^ y).testBit y = true := by
  have h1 := pu hu
  have hxu := bit_lt hS hx
  have h2 : clr S x < 2 ^ u := clr_lt hS
  have h3 : ¬ (clr S x).testBit y = true := by
    rw [clr_bit (by omega)]
    intro q
    rw [Bool.and_eq_true] at q
    exact hyb q.1
  have h4 := pc_clr (x := x) (S := S) (by omega) (by omega) hx
  refine ⟨or_lt h2 hy, ?_, ?_⟩
  · rw [pc_or (by omega), if_neg h3]; omega
  · rw [orb_bit]; simp
theorem xor_clr {S x : Nat} (hS : S < 65536) (hx : S.testBit x = true) : S ^^^ 2 ^ x = clr S x := by
  apply Nat.eq_of_testBit_eq
  intro j
  rw [clr_bit hS, Nat.testBit_xor, Nat.testBit_two_pow]
  by_cases q : j = x
  · subst q; simp [hx]
  · have : ¬ x = j := fun z => q z.symm
    simp [q, this]
/-! the least, by its table -/
def mE (f : Nat → Nat) (S : Nat) : Nat → Nat
  | 0 => 2147483647
  | t + 1 => if S.testBit t = true ∧ f t < mE f S t then f t else mE f S t
theorem mE_p (f : Nat → Nat) (S : Nat) : ∀ t, (∀ b, b < t → S.testBit b = true → mE f S t ≤ f b) ∧ mE f S t ≤ 2147483647 ∧ (mE f S t = 2147483647 ∨ ∃ b, b < t ∧ S.testBit b = true ∧ mE f S t = f b) := by
  intro t
  induction t with
  | zero => exact ⟨fun b hb => by omega, Nat.le_refl _, Or.inl rfl⟩
  | succ t ih =>
    obtain ⟨h1, h2, h3⟩ := ih
    unfold mE
    by_cases q : S.testBit t = true ∧ f t < mE f S t
    · rw [if_pos q]
      refine ⟨fun b hb hs => ?_, by omega, Or.inr ⟨t, by omega, q.1, rfl⟩⟩
      by_cases z : b = t
      · rw [z]; exact Nat.le_refl _
      · have := h1 b (by omega) hs; omega
    · rw [if_neg q]
      refine ⟨fun b hb hs => ?_, h2, ?_⟩
      · by_cases z : b = t
        · subst z
          have : ¬ f b < mE f S b := fun y => q ⟨hs, y⟩
          omega
        · exact h1 b (by omega) hs
      · rcases h3 with z | ⟨b, a1, a2, a3⟩
        · exact Or.inl z
        · exact Or.inr ⟨b, by omega, a2, a3⟩
def dE (q c : Nat → Nat) (k n : Nat) : Nat → Nat → Nat
  | 0 => fun _ => 0
  | d + 1 => fun S => if k < pc S then 0 else if S.testBit (q (n - (d + 1))) = true then dE q c k n d S else if pc S < k then c (n - (d + 1)) + dE q c k n d (S ||| 2 ^ q (n - (d + 1))) else mE (fun b => c (n - (d + 1)) + dE q c k n d (clr S b ||| 2 ^ q (n - (d + 1)))) S 10
/-- what is due from asking i on -/
def eE (q c : Nat → Nat) (k n i S : Nat) : Nat := dE q c k n (n - i) S
theorem eE_n (q c : Nat → Nat) (k n S : Nat) : eE q c k n n S = 0 := by
  unfold eE
  rw [Nat.sub_self]
  rfl
theorem eE_s {q c : Nat → Nat} {k n i : Nat} (hi : i < n) (S : Nat) : eE q c k n i S = if k < pc S then 0 else if S.testBit (q i) = true then eE q c k n (i + 1) S else if pc S < k then c i + eE q c k n (i + 1) (S ||| 2 ^ q i) else mE (fun b => c i + eE q c k n (i + 1) (clr S b ||| 2 ^ q i)) S 10 := by
  unfold eE
  obtain ⟨d, hd⟩ : ∃ d, d = n - (i + 1) := ⟨_, rfl⟩
  rw [← hd, show n - i = d + 1 by omega]
  show (if k < pc S then 0 else if S.testBit (q (n - (d + 1))) = true then dE q c k n d S else if pc S < k then c (n - (d + 1)) + dE q c k n d (S ||| 2 ^ q (n - (d + 1))) else mE (fun b => c (n - (d + 1)) + dE q c k n d (clr S b ||| 2 ^ q (n - (d + 1)))) S 10) = _
  rw [show n - (d + 1) = i by omega]
/-- the bits and prices of a row -/
def QC (q c : Nat → Nat) (k n u : Nat) : Prop := n ≤ 300 ∧ (1 ≤ k ∧ k ≤ 8) ∧ u ≤ 10 ∧ ∀ i, i < n → q i < u ∧ c i ≤ 1000
theorem eE_b {q c : Nat → Nat} {k n u : Nat} (h : QC q c k n u) : ∀ d i S, i + d = n → S < 2 ^ u → eE q c k n i S ≤ 1000 * d := by
  obtain ⟨h1, h2, h3, h4⟩ := h
  intro d
  induction d with
  | zero =>
    intro i S hi hS
    have : i = n := by omega
    subst this
    rw [eE_n]
    omega
  | succ d ih =>
    intro i S hi hS
    obtain ⟨a, b⟩ := h4 i (by omega)
    rw [eE_s (by omega)]
    by_cases q1 : k < pc S
    · rw [if_pos q1]; omega
    · rw [if_neg q1]
      by_cases q2 : S.testBit (q i) = true
      · rw [if_pos q2]
        have := ih (i + 1) S (by omega) hS
        omega
      · rw [if_neg q2]
        by_cases q3 : pc S < k
        · rw [if_pos q3]
          have := ih (i + 1) (S ||| 2 ^ q i) (by omega) (or_lt hS a)
          omega
        · rw [if_neg q3]
          obtain ⟨t, t1, t2⟩ := pc_ex hS (by omega)
          have e1 := (mE_p (fun b => c i + eE q c k n (i + 1) (clr S b ||| 2 ^ q i)) S 10).1 t (by omega) t2
          have e2 := ih (i + 1) (clr S t ||| 2 ^ q i) (by omega) (or_lt (clr_lt hS) a)
          omega
theorem eE_le {q c : Nat → Nat} {k n u : Nat} (h : QC q c k n u) {i S : Nat} (hi : i ≤ n) (hS : S < 2 ^ u) : eE q c k n i S ≤ 300000 := by
  have h1 := eE_b h (n - i) i S (by omega) hS
  have h2 := h.1
  omega
/-! the choice -/
theorem amin_first {c : Nat → Prop} [DecidablePred c] (f : Nat → Nat) : ∀ t (a : Nat), amin c (fun x y => f x < f y) t = (a : Int) → a < t ∧ c a ∧ (∀ x, x < t → c x → f a ≤ f x) ∧ ∀ x, x < a → c x → f a < f x := by
  intro t
  induction t with
  | zero => intro a h; exact absurd h (by show ¬ (-1 : Int) = (a : Int); omega)
  | succ t ih =>
    intro a h
    obtain ⟨b1, b2, b3, b4⟩ := amin_b c (fun x y => f x < f y) t
    rw [amin_s] at h
    by_cases q : c t ∧ (amin c (fun x y => f x < f y) t < 0 ∨ f t < f (amin c (fun x y => f x < f y) t).toNat)
    · rw [if_pos q] at h
      have hat : a = t := by omega
      subst hat
      have key : ∀ x, x < a → c x → f a < f x := by
        intro x hx hc
        rcases q.2 with z | z
        · exact absurd hc (b4 z x hx)
        · by_cases y : amin c (fun x y => f x < f y) a < 0
          · exact absurd hc (b4 y x hx)
          · have := (ih _ (show amin c (fun x y => f x < f y) a = ((amin c (fun x y => f x < f y) a).toNat : Int) by omega)).2.2.1 x hx hc
            omega
      refine ⟨by omega, q.1, fun x hx hc => ?_, key⟩
      by_cases y : x = a
      · rw [y]; exact Nat.le_refl _
      · exact Nat.le_of_lt (key x (by omega) hc)
    · rw [if_neg q] at h
      obtain ⟨i1, i2, i3, i4⟩ := ih a h
      refine ⟨by omega, i2, fun x hx hc => ?_, i4⟩
      by_cases y : x = t
      · subst y
        have : ¬ f x < f a := fun z => q ⟨hc, Or.inr (by rw [h, Int.toNat_natCast]; exact z)⟩
        omega
      · exact i3 x (by omega) hc
/-- what is due behind asking i if b goes -/
def kE (q c : Nat → Nat) (k n i S b : Nat) : Nat := eE q c k n (i + 1) (clr S b ||| 2 ^ q i)
def ch (q c : Nat → Nat) (k n i S t : Nat) : Int := amin (fun x => S.testBit x = true) (fun x y => kE q c k n i S x < kE q c k n i S y) t
theorem ch_u {q c : Nat → Nat} {k n i S u : Nat} (hS : S < 2 ^ u) : ∀ d, ch q c k n i S (u + d) = ch q c k n i S u := by
  intro d
  induction d with
  | zero => rfl
  | succ d ih =>
    have e : ch q c k n i S (u + d + 1) = if S.testBit (u + d) = true ∧ (ch q c k n i S (u + d) < 0 ∨ kE q c k n i S (u + d) < kE q c k n i S (ch q c k n i S (u + d)).toNat) then ((u + d : Nat) : Int) else ch q c k n i S (u + d) := rfl
    rw [← Nat.add_assoc, e, if_neg (fun z => by have := bit_lt hS z.1; omega), ih]
theorem ch_p {q c : Nat → Nat} {k n i S u : Nat} (hu : u ≤ 10) (hS : S < 2 ^ u) (h : 1 ≤ pc S) : ∃ g : Nat, ch q c k n i S u = (g : Int) ∧ ch q c k n i S 10 = (g : Int) ∧ g < u ∧ S.testBit g = true ∧ (∀ x, x < 10 → S.testBit x = true → kE q c k n i S g ≤ kE q c k n i S x) ∧ ∀ x, x < g → S.testBit x = true → kE q c k n i S g < kE q c k n i S x := by
  have h10 : ch q c k n i S 10 = ch q c k n i S u := by
    have := ch_u (q := q) (c := c) (k := k) (n := n) (i := i) hS (10 - u)
    rw [show u + (10 - u) = 10 by omega] at this
    exact this
  obtain ⟨b1, b2, b3, b4⟩ := amin_b (fun x => S.testBit x = true) (fun x y => kE q c k n i S x < kE q c k n i S y) 10
  obtain ⟨t, t1, t2⟩ := pc_ex hS h
  have hn : ¬ ch q c k n i S 10 < 0 := fun z => b4 z t (by omega) t2
  refine ⟨(ch q c k n i S 10).toNat, by omega, by omega, ?_⟩
  obtain ⟨a1, a2, a3, a4⟩ := amin_first (c := fun x => S.testBit x = true) (kE q c k n i S) 10 (ch q c k n i S 10).toNat (by show ch q c k n i S 10 = _; omega)
  exact ⟨bit_lt hS a2, a2, a3, a4⟩
theorem eE_full {q c : Nat → Nat} {k n u i S : Nat} (h : QC q c k n u) (hi : i < n) (hS : S < 2 ^ u) (hk : pc S = k) (hb : ¬ S.testBit (q i) = true) {g : Nat} (hg : S.testBit g = true) (hl : ∀ x, x < 10 → S.testBit x = true → kE q c k n i S g ≤ kE q c k n i S x) : eE q c k n i S = c i + kE q c k n i S g := by
  obtain ⟨h1, h2, h3, h4⟩ := h
  have hgu := bit_lt hS hg
  rw [eE_s hi, if_neg (by omega), if_neg hb, if_neg (by omega)]
  obtain ⟨e1, e2, e3⟩ := mE_p (fun b => c i + eE q c k n (i + 1) (clr S b ||| 2 ^ q i)) S 10
  have f1 := e1 g (by omega) hg
  have f2 := eE_le ⟨h1, h2, h3, h4⟩ (i := i + 1) (S := clr S g ||| 2 ^ q i) (by omega) (or_lt (clr_lt hS) (h4 i hi).1)
  have f3 := (h4 i hi).2
  rcases e3 with z | ⟨b, z1, z2, z3⟩
  · omega
  · have := hl b z1 z2
    unfold kE at *
    omega
/-! the course of the sets -/
def sE (q c : Nat → Nat) (k n : Nat) : Nat → Nat
  | 0 => 0
  | s + 1 => if (sE q c k n s).testBit (q s) = true then sE q c k n s else if pc (sE q c k n s) < k then sE q c k n s ||| 2 ^ q s else clr (sE q c k n s) (ch q c k n s (sE q c k n s) 10).toNat ||| 2 ^ q s
theorem sE_s (q c : Nat → Nat) (k n s : Nat) : sE q c k n (s + 1) = if (sE q c k n s).testBit (q s) = true then sE q c k n s else if pc (sE q c k n s) < k then sE q c k n s ||| 2 ^ q s else clr (sE q c k n s) (ch q c k n s (sE q c k n s) 10).toNat ||| 2 ^ q s := rfl
/-- what goes at asking s: a bit, or -1 -/
def gE (q c : Nat → Nat) (k n s : Nat) : Int := if (sE q c k n s).testBit (q s) = true then -1 else if pc (sE q c k n s) < k then -1 else ch q c k n s (sE q c k n s) 10
theorem sE_b {q c : Nat → Nat} {k n u : Nat} (h : QC q c k n u) : ∀ s, s ≤ n → sE q c k n s < 2 ^ u ∧ pc (sE q c k n s) ≤ k := by
  intro s
  induction s with
  | zero =>
    intro _
    refine ⟨?_, ?_⟩
    · show 0 < 2 ^ u
      exact Nat.pow_pos (by decide)
    · show pc 0 ≤ k
      rw [pc_0]; omega
  | succ s ih =>
    intro hs
    obtain ⟨i1, i2⟩ := ih (by omega)
    obtain ⟨a, b⟩ := h.2.2.2 s (by omega)
    have hu := h.2.2.1
    rw [sE_s]
    by_cases q1 : (sE q c k n s).testBit (q s) = true
    · rw [if_pos q1]; exact ⟨i1, i2⟩
    · rw [if_neg q1]
      by_cases q2 : pc (sE q c k n s) < k
      · rw [if_pos q2]
        refine ⟨or_lt i1 a, ?_⟩
        rw [pc_or (by omega), if_neg q1]; omega
      · rw [if_neg q2]
        obtain ⟨g, -, g1, g2, g3, -⟩ := ch_p (q := q) (c := c) (k := k) (n := n) (i := s) hu i1 (by have := h.2.1.1; omega)
        rw [g1, Int.toNat_natCast]
        obtain ⟨x1, x2, -⟩ := pc_sw hu i1 g3 a q1
        exact ⟨x1, by omega⟩
theorem sE_full {q c : Nat → Nat} {k n u s : Nat} (h : QC q c k n u) (hs : s < n) (hk : pc (sE q c k n s) = k) : pc (sE q c k n (s + 1)) = k := by
  obtain ⟨i1, i2⟩ := sE_b h s (by omega)
  obtain ⟨a, b⟩ := h.2.2.2 s (by omega)
  have hu := h.2.2.1
  rw [sE_s]
  by_cases q1 : (sE q c k n s).testBit (q s) = true
  · rw [if_pos q1]; exact hk
  · rw [if_neg q1, if_neg (by omega)]
    obtain ⟨g, -, g1, g2, g3, -⟩ := ch_p (q := q) (c := c) (k := k) (n := n) (i := s) hu i1 (by have := h.2.1.1; omega)
    rw [g1, Int.toNat_natCast]
    obtain ⟨x1, x2, -⟩ := pc_sw hu i1 g3 a q1
    omega
theorem sE_low {q c : Nat → Nat} {k n s : Nat} (hk : pc (sE q c k n s) < k) : sE q c k n (s + 1) = sE q c k n s ||| 2 ^ q s ∧ gE q c k n s = -1 := by
  rw [sE_s]
  unfold gE
  by_cases q1 : (sE q c k n s).testBit (q s) = true
  · rw [if_pos q1, if_pos q1]
    refine ⟨?_, rfl⟩
    apply Nat.eq_of_testBit_eq
    intro i
    rw [orb_bit]
    by_cases y : i = q s
    · rw [y, q1]; rfl
    · simp [y]
  · rw [if_neg q1, if_pos hk, if_neg q1, if_pos hk]
    exact ⟨rfl, rfl⟩
