/-! rains: the reference, the question -/
theorem sh_pow : ∀ n : Nat, n < 9 → iI 1 <<< (iI ((n : Nat) : Int) &&& 31) = iI ((2 ^ n : Nat) : Int) := by decide +kernel
theorem bq_bit : ∀ m : Nat, m < 256 → ∀ j : Nat, j < 8 → bq (iI ((m : Nat) : Int)) j = decide (m / 2 ^ j % 2 = 1) := by decide +kernel
theorem pow2_8 {n : Nat} (h : n ≤ 8) : 1 ≤ 2 ^ n ∧ 2 ^ n ≤ 256 := by
  match n, h with
  | 0, _ => decide
  | 1, _ => decide
  | 2, _ => decide
  | 3, _ => decide
  | 4, _ => decide
  | 5, _ => decide
  | 6, _ => decide
  | 7, _ => decide
  | 8, _ => decide
/-- the inner loop's step: one hour of a way -/
theorem gW_hour (st : Bool → Int → Int → Int) (x like cur h : Int) (n m : Nat) : like * gW st x (n + 1) m cur h = (if m % 2 = 1 then like * x else like * (10 - x)) * gW st x n (m / 2) (if m % 2 = 1 then st true cur h else st false cur h) (h + 1) := by
  show like * (if m % 2 = 1 then x * gW st x n (m / 2) (st true cur h) (h + 1) else (10 - x) * gW st x n (m / 2) (st false cur h) (h + 1)) = _
  by_cases c : m % 2 = 1
  · rw [if_pos c, if_pos c, if_pos c, Int.mul_assoc]
  · rw [if_neg c, if_neg c, if_neg c, Int.mul_assoc]