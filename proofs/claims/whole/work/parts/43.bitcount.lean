/-! Integer.bitCount -/
def bcN (n : Nat) : Nat := 
  let x1 := n - ((n / 2) &&& 1431655765)
  let x2 := (x1 &&& 858993459) + ((x1 / 4) &&& 858993459)
  let x3 := (x2 + x2 / 16) &&& 252645135
  let x4 := x3 + x3 / 256
  let x5 := x4 + x4 / 65536
  x5 &&& 63
def popN (n : Nat) : Nat := n % 2 + n / 2 % 2 + n / 4 % 2 + n / 8 % 2 + n / 16 % 2 + n / 32 % 2 + n / 64 % 2 + n / 128 % 2 + n / 256 % 2 + n / 512 % 2 + n / 1024 % 2 + n / 2048 % 2 + n / 4096 % 2 + n / 8192 % 2 + n / 16384 % 2 + n / 32768 % 2
def chkB : Nat → Bool
  | 0 => true
  | n + 1 => Nat.beq (bcN n) (popN n) && chkB n
theorem chkB_ok : chkB 65536 = true := by decide +kernel
theorem chkB_at : ∀ {m n : Nat}, chkB m = true → n < m → bcN n = popN n
  | 0, n, _, h => by omega
  | m + 1, n, hc, h => by
    unfold chkB at hc
    rw [Bool.and_eq_true] at hc
    by_cases e : n = m
    · subst e; exact Nat.eq_of_beq_eq_true hc.1
    · exact chkB_at hc.2 (by omega)
