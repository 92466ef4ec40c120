/-! share: no NaN -/
def okN (n : Nat) : Prop := n % 2147483648 ≤ 2139095040
theorem okN_u {n : Nat} (h : okN n) : okN (UInt32.ofNat n).toNat := by
  unfold okN at *
  rw [UInt32.toNat_ofNat']
  omega
theorem ok_cf {O : Type} {x : UInt32} {F : Option O} (h : okN x.toNat) : cf x F = F := by
  unfold cf
  refine if_pos ?_
  rw [UInt32.le_iff_toNat_le, UInt32.toNat_and]
  show x.toNat &&& 2147483647 ≤ 2139095040
  rw [show (2147483647 : Nat) = 2 ^ 31 - 1 by decide, Nat.and_two_pow_sub_one_eq_mod]
  exact h
def okD : FP.Core.Datum → Prop
  | .nan => False
  | .inf _ => True
  | .fin _ c q => c < 16777216 ∧ q ≤ 104
theorem okD_enc {d : FP.Core.Datum} (h : okD d) : okN (FP.Core.encode FP.Core.b32 d) := by
  cases d with
  | nan => exact h.elim
  | inf s => cases s <;> (unfold okN; decide)
  | fin s c q =>
    obtain ⟨h1, h2⟩ : c < 16777216 ∧ q ≤ 104 := h
    unfold okN
    show (if c < 8388608 then FP.Core.assemble FP.Core.b32 s 0 c else FP.Core.assemble FP.Core.b32 s ((q - (-149)).toNat + 1) (c - 8388608)) % 2147483648 ≤ 2139095040
    have ha : ∀ e t, FP.Core.assemble FP.Core.b32 s e t = (s.toNat * 256 + e) * 8388608 + t := fun _ _ => rfl
    rw [ha, ha]
    have hs : s.toNat = 0 ∨ s.toNat = 1 := by cases s <;> simp
    split
    · rcases hs with z | z <;> rw [z] <;> omega
    · have : (q - (-149)).toNat ≤ 253 := by omega
      rcases hs with z | z <;> rw [z] <;> omega
theorem okD_bound (s : Bool) (c : Nat) (q : Int) (hc : c < 16777216) : okD (FP.Core.bound FP.Core.b32 s c q) := by
  unfold FP.Core.bound
  split
  · rename_i h
    exact ⟨hc, h⟩
  · trivial
theorem okD_settle (s : Bool) (c : Nat) (q : Int) : okD (FP.Core.settle FP.Core.b32 s c q) := by
  unfold FP.Core.settle
  split
  · rename_i h
    exact okD_bound _ _ _ h
  · exact okD_bound _ _ _ (by decide)
theorem okD_rr (s : Bool) (a b : Nat) (e : Int) : okD (FP.Core.roundRatio FP.Core.b32 s a b e) := by
  unfold FP.Core.roundRatio
  split
  · exact ⟨by decide, by decide⟩
  · exact okD_settle _ _ _
theorem okN_dec {n : Nat} (h : okN n) : FP.Core.decode FP.Core.b32 n ≠ .nan := by
  unfold okN at h
  unfold FP.Core.decode
  split
  · rename_i h1
    have h1 : n / 8388608 % 256 = 255 := h1
    split
    · intro q; cases q
    · rename_i h2
      have h2 : ¬ n % 8388608 = 0 := h2
      omega
  · split <;> (intro q; cases q)
theorem okD_pr {d : FP.Core.Datum} (h : d ≠ .nan) (t : Bool) (c : Nat) (q : Int) (hc : c ≠ 0) : okD (FP.Core.round FP.Core.b32 (FP.Core.exactProduct d (.fin t c q))) := by
  cases d with
  | nan => exact absurd rfl h
  | inf s =>
    show okD (FP.Core.round FP.Core.b32 (if c = 0 then .nan else .inf (s != t)))
    rw [if_neg hc]
    trivial
  | fin s a b => exact okD_rr _ _ _ _
def isF (x : Nat) : Bool := match FP.Core.decode FP.Core.b32 (FP.i2f (nI x)).toNat with
  | .fin _ c _ => c != 0 || x == 0
  | _ => false
theorem isF_t : ∀ x : Fin 301, isF x.val = true := by decide +kernel
theorem isF_at {x : Nat} (h : x ≤ 300) : ∃ s c q, FP.Core.decode FP.Core.b32 (FP.i2f (nI x)).toNat = .fin s c q ∧ (1 ≤ x → c ≠ 0) := by
  have h := isF_t ⟨x, by omega⟩
  unfold isF at h
  cases hd : FP.Core.decode FP.Core.b32 (FP.i2f (nI x)).toNat with
  | nan => simp only [hd] at h; cases h
  | inf s => simp only [hd] at h; cases h
  | fin s c q =>
    simp only [hd] at h
    refine ⟨s, c, q, rfl, fun hx hc => ?_⟩
    subst hc
    have hx : ¬ x = 0 := by omega
    simp [hx] at h
theorem ten_k : FP.Core.decode FP.Core.b32 (1176256512 : UInt32).toNat = .fin false 10240000 (-10) := by decide +kernel
theorem fp_hf : ∀ x n : Nat, x ≤ n → 1 ≤ n → n ≤ 300 → ∃ v, ∀ {O : Type} (F : Int → Option O), cf (FP.fdiv (FP.i2f (iz (x : Int))) (FP.i2f (iz (n : Int)))) (cf (FP.fmul (FP.fdiv (FP.i2f (iz (x : Int))) (FP.i2f (iz (n : Int)))) 1176256512) (F (f2iI (FP.fmul (FP.fdiv (FP.i2f (iz (x : Int))) (FP.i2f (iz (n : Int)))) 1176256512)))) = F v := by
  intro x n h1 h2 h3
  rw [iz_nat, iz_nat]
  obtain ⟨s, c, q, e1, -⟩ := isF_at (x := x) (by omega)
  obtain ⟨s', c', q', e2, e3⟩ := isF_at (x := n) (by omega)
  have a : okN (FP.fdiv (FP.i2f (nI x)) (FP.i2f (nI n))).toNat := by
    show okN (UInt32.ofNat (FP.Core.encode FP.Core.b32 (FP.Core.quotient FP.Core.b32 (FP.Core.decode FP.Core.b32 (FP.i2f (nI x)).toNat) (FP.Core.decode FP.Core.b32 (FP.i2f (nI n)).toNat)))).toNat
    refine okN_u (okD_enc ?_)
    rw [e1, e2]
    show okD (if c' = 0 then (if c = 0 then .nan else .inf (s != s')) else FP.Core.roundRatio FP.Core.b32 (s != s') c c' (q - q'))
    rw [if_neg (e3 h2)]
    exact okD_rr _ _ _ _
  have b : okN (FP.fmul (FP.fdiv (FP.i2f (nI x)) (FP.i2f (nI n))) 1176256512).toNat := by
    show okN (UInt32.ofNat (FP.Core.encode FP.Core.b32 (FP.Core.round FP.Core.b32 (FP.Core.exactProduct (FP.Core.decode FP.Core.b32 (FP.fdiv (FP.i2f (nI x)) (FP.i2f (nI n))).toNat) (FP.Core.decode FP.Core.b32 (1176256512 : UInt32).toNat))))).toNat
    refine okN_u (okD_enc ?_)
    rw [ten_k]
    exact okD_pr (okN_dec a) _ _ _ (by decide)
  refine ⟨f2iI (FP.fmul (FP.fdiv (FP.i2f (nI x)) (FP.i2f (nI n))) 1176256512), fun F => ?_⟩
  rw [ok_cf a, ok_cf b]
theorem call_share {J R U V T M : St} (h : Rel (J, R, U, V, T) M) : CA (fX3_share (J, R, U, V, T)) (fX4_share M) := call_share_of h fp_hf
