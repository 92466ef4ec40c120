/-! share: no NaN (trial of one pair) -/
def fpk (x n : Nat) : Bool := decide (FP.fdiv (FP.i2f (nI x)) (FP.i2f (nI n)) &&& 0x7fffffff ≤ 0x7f800000) && decide (FP.fmul (FP.fdiv (FP.i2f (nI x)) (FP.i2f (nI n))) 1176256512 &&& 0x7fffffff ≤ 0x7f800000)
def fpr (n : Nat) : Nat → Bool
  | 0 => fpk 0 n
  | x + 1 => fpk (x + 1) n && fpr n x
theorem fp_t : fpr 300 20 = true := by decide +kernel
theorem fp_t2 : fpr 299 299 = true := by decide +kernel
