theorem pure_law (L : Nat) (xs : Nat → Int) (hL : L ≤ 3072) (hxs : ∀ j, -2147483648 ≤ xs j ∧ xs j < 2147483648) : ∃ n, fL_law_l18 L xs n 0 (J0, M0) = some () :=
  ⟨FU, law_loop hL hxs 512 0 FU J0 M0 rel_0 (by omega) (by omega) (FU_gt (by omega))⟩
