/-! what judge and model have in common -/
def RR (R M : St) (n : Nat) (r p : Nat → Nat) : Prop :=
  R.1 4 = (n : Int) ∧ M.1 2 = (n : Int) ∧ n ≤ 300 ∧ (∀ i, i < n → r i < 16 ∧ R.2 0 i = (r i : Int) ∧ M.2 1 i = (r i : Int)) ∧ (∀ t, t < 16 → 1 ≤ p t ∧ p t ≤ 1000 ∧ R.2 1 t = (p t : Int) ∧ M.2 0 t = (p t : Int))
/-- the table of what is asked for next, as AHEAD needs it -/
def NX (R : St) (n : Nat) (r : Nat → Nat) : Prop := ∀ i, i < n → R.2 2 i = if nx r n (r i) (i + 1) < n then ((nx r n (r i) (i + 1) : Nat) : Int) else 300
/-- of one thing, on the judge's shelf S and the model's M -/
def TH (S M : St) (r : Nat → Nat) (w k i : Nat) (occ : Nat → Prop) (t : Nat) : Prop :=
  ((M.2 13 t = 1 ∧ (S.2 1 t = 1 ∨ S.2 1 t = 2)) ∨ (M.2 13 t = 0 ∧ (S.2 1 t = 0 ∨ S.2 1 t = 3 ∨ S.2 1 t = 4))) ∧
  ((w = 5 ∨ w = 6) → M.2 19 t = S.2 1 t) ∧
  (¬ (w = 5 ∨ w = 6) → (S.2 1 t = 0 ∨ S.2 1 t = 1) ∧ (M.2 19 t = 0 ∨ M.2 19 t = 1 ∨ M.2 19 t = 2)) ∧
  (M.2 13 t = 1 → S.2 5 t = M.2 16 t ∧ 1 ≤ M.2 16 t ∧ M.2 16 t ≤ (i : Int) ∧ S.2 4 t = M.2 15 t ∧ 0 ≤ M.2 15 t ∧ M.2 15 t < (i : Int) ∧ S.2 6 t = M.2 21 t ∧ 0 ≤ M.2 21 t ∧ M.2 21 t ≤ 1000 * (i : Int) ∧ S.2 7 t = M.2 18 t) ∧
  (M.2 13 t = 1 → ∃ q : Nat, q < k ∧ occ q ∧ M.2 18 t = (q : Int) ∧ S.2 8 q = (t : Int)) ∧
  (M.2 13 t = 0 → M.2 16 t = 0 ∧ M.2 21 t = 0 ∧ M.2 18 t = -1) ∧
  (w = 0 → M.2 13 t = 1 → S.2 3 t = M.2 14 t ∧ 0 ≤ M.2 14 t ∧ M.2 14 t < (i : Int)) ∧
  ((w = 5 ∨ w = 6) → (S.2 1 t = 1 ∨ S.2 1 t = 3 ∨ S.2 1 t = 4) → S.2 3 t = M.2 20 t ∧ 0 ≤ M.2 20 t ∧ M.2 20 t ≤ (i : Int)) ∧
  (w = 8 → M.2 13 t = 1 → r (M.2 15 t).toNat = t ∧ ∀ j : Nat, M.2 15 t < (j : Int) → j < i → r j ≠ t)
def MK (S M : St) (w : Nat) : Prop := ∃ mk : Nat, mk < 65536 ∧ S.1 12 = (mk : Int) ∧ ((w = 2 ∨ w = 3) → ∀ t, t < 16 → (mk.testBit t = true ∧ M.2 17 t = 1 ∧ M.2 13 t = 1) ∨ (mk.testBit t = false ∧ M.2 17 t = 0)) ∧ (¬ (w = 2 ∨ w = 3) → ∀ t, t < 16 → M.2 17 t = 0)
def CNT (S : St) : Prop := ∀ j : Nat, 1 ≤ j → j ≤ 4 → S.2 2 j = ((cn (fun t => S.2 1 t = (j : Int)) 16 : Nat) : Int)
def SC (S M : St) (w k i ly : Nat) : Prop :=
  S.1 9 = (w : Int) ∧ M.1 11 = (w : Int) ∧ S.1 10 = (k : Int) ∧ M.1 12 = (k : Int) ∧ S.1 11 = (i : Int) ∧ M.1 22 = (ly : Int) ∧ S.2 2 1 + S.2 2 2 = (ly : Int) ∧ M.1 23 = S.1 13 ∧ M.1 24 = S.1 14 ∧ 0 ≤ S.1 14 ∧ S.1 14 < (k : Int) ∧ M.1 25 = S.1 15 ∧ 0 ≤ S.1 15 ∧ S.1 15 ≤ (k : Int) ∧ M.1 26 = S.1 16 ∧ 0 ≤ S.1 16 ∧ S.1 16 ≤ 1000 * (i : Int) ∧ S.2 2 3 ≤ (k : Int) ∧ S.2 2 4 ≤ (k : Int)
def PL (S M : St) (k : Nat) (occ : Nat → Prop) : Prop := ∀ q, q < k → occ q → ∃ t : Nat, t < 16 ∧ S.2 8 q = (t : Int) ∧ M.2 13 t = 1 ∧ M.2 18 t = (q : Int)
def SH (S R M : St) (n : Nat) (r p : Nat → Nat) (w k i ly : Nat) (occ : Nat → Prop) : Prop :=
  RR R M n r p ∧ (w ≤ 8 ∧ 1 ≤ k ∧ k ≤ 8 ∧ i ≤ n ∧ ly ≤ k) ∧ SC S M w k i ly ∧ MK S M w ∧ CNT S ∧ (∀ t, t < 16 → TH S M r w k i occ t) ∧ PL S M k occ ∧ (w = 8 → NX R n r)
/-! pieces of the judge's shelf -/
theorem e_has {R : St} {n : Nat} {a : Int} (hn : R.1 4 = (n : Int)) (hn3 : n ≤ 300) (ha : wr a = a) : fX1_has R a = some (if 0 ≤ a ∧ a < (n : Int) then 1 else 0, R) := by
  simp only [fX1_has, fX1_has_j16, fX1_has_j17, ha, hn, wr_nat (show n < 2147483648 by omega), cb_0, cb_1]
  by_cases h1 : a < 0
  · rw [if_pos h1, if_neg (by omega)]
  · by_cases h2 : (n : Int) ≤ a
    · rw [if_neg h1, if_pos h2, if_neg (by omega)]
    · rw [if_neg h1, if_neg h2, if_pos (by omega)]
theorem c_lies {S R : St} {t : Nat} (ht : t < 16) (h : wr (S.2 1 t) = S.2 1 t) : fX2_lies (S, R) (t : Int) = some (if S.2 1 t = 1 ∨ S.2 1 t = 2 then 1 else 0, (S, R)) := by
  simp only [fX2_lies, fX2_lies_j20, fX2_lies_j25, bd_n ht, Int.toNat_natCast, h, wl_1, wl_2, cb_0, cb_1]
  grind
theorem c_hasBooks {S R : St} {w : Nat} (hw : S.1 9 = (w : Int)) (h8 : w ≤ 8) : fX2_hasBooks (S, R) = some (if w = 5 ∨ w = 6 then 1 else 0, (S, R)) := by
  simp only [fX2_hasBooks, fX2_hasBooks_j17, fX2_hasBooks_j22, hw, wr_nat (show w < 2147483648 by omega), wl_5, wl_6, cb_0, cb_1]
  grind
def mvS (S : St) (t to : Nat) : St := (S.1, fun a x => if a = 1 then (if x = t then (to : Int) else S.2 1 x) else if a = 3 then (if x = t then S.1 11 else S.2 3 x) else if a = 2 then (S.2 2 x - (if x = (S.2 1 t).toNat then 1 else 0) + (if x = to then 1 else 0)) else S.2 a x)
theorem c_move {S R : St} {t to : Nat} (ht : t < 16) (hto : to < 5) (h : 0 ≤ S.2 1 t ∧ S.2 1 t < 5) : fX2_move (S, R) (t : Int) (to : Int) = some (mvS S t to, R) := by
  simp only [fX2_move, nm, bd_n ht, bd_n hto, Int.toNat_natCast, bd_pos (show 0 ≤ S.2 1 t ∧ S.2 1 t < ((5 : Nat) : Int) from h)]
  congr 2
  refine st_ext (fun _ => rfl) (fun a x => ?_)
  simp only [sA1, sA2, mvS, ↓reduceIte, Nat.reduceEqDiff]
  grind
theorem mv_cnt {S : St} {t to : Nat} (hC : CNT S) (ht : t < 16) (hto : to ≤ 4) (h : 0 ≤ S.2 1 t ∧ S.2 1 t < 5) : CNT (mvS S t to) := by
  intro j h1 h4
  have hj := hC j h1 h4
  have hu := cn_upd (c := fun x => S.2 1 x = (j : Int)) (c' := fun x => (mvS S t to).2 1 x = (j : Int)) (n := 16) ht (fun x _ hx => by simp only [mvS, ↓reduceIte]; rw [if_neg hx])
  have e1 : (mvS S t to).2 1 t = (to : Int) := by simp [mvS]
  have e2 : (mvS S t to).2 2 j = S.2 2 j - (if j = (S.2 1 t).toNat then 1 else 0) + (if j = to then 1 else 0) := by simp [mvS]
  rw [e2, hj]
  rw [e1] at hu
  by_cases a : S.2 1 t = (j : Int)
  · rw [if_pos (by omega)]
    rw [if_pos a] at hu
    by_cases b : j = to
    · rw [if_pos b]; rw [if_pos (by omega)] at hu; omega
    · rw [if_neg b]; rw [if_neg (by omega)] at hu; omega
  · rw [if_neg (by omega)]
    rw [if_neg a] at hu
    by_cases b : j = to
    · rw [if_pos b]; rw [if_pos (by omega)] at hu; omega
    · rw [if_neg b]; rw [if_neg (by omega)] at hu; omega
