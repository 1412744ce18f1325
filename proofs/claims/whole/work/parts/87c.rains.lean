/-! rains: the sums -/
/-- the sum of f over 0..k-1 -/
def sN (f : Nat → Int) : Nat → Int
  | 0 => 0
  | k + 1 => sN f k + f k
theorem sN_s (f : Nat → Int) (k : Nat) : sN f (k + 1) = sN f k + f k := rfl
theorem sN_cong {f g : Nat → Int} {k : Nat} (h : ∀ i, i < k → f i = g i) : sN f k = sN g k := by
  induction k with
  | zero => rfl
  | succ k ih => rw [sN_s, sN_s, ih (fun i hi => h i (by omega)), h k (by omega)]
theorem sN_two (f : Nat → Int) (k : Nat) : sN f (2 * k) = sN (fun i => f (2 * i) + f (2 * i + 1)) k := by
  induction k with
  | zero => rfl
  | succ k ih =>
    rw [show 2 * (k + 1) = 2 * k + 1 + 1 by omega, sN_s, sN_s, sN_s, ih]
    omega
theorem sN_add (f g : Nat → Int) (k : Nat) : sN (fun i => f i + g i) k = sN f k + sN g k := by
  induction k with
  | zero => rfl
  | succ k ih => rw [sN_s, sN_s, sN_s, ih]; omega
theorem sN_mul (c : Int) (f : Nat → Int) (k : Nat) : sN (fun i => c * f i) k = c * sN f k := by
  induction k with
  | zero => show 0 = c * 0; rw [Int.mul_zero]
  | succ k ih => rw [sN_s, sN_s, ih, Int.mul_add]
theorem sN_zero (k : Nat) : sN (fun _ => 0) k = 0 := by
  induction k with
  | zero => rfl
  | succ k ih => rw [sN_s, ih]; rfl
/-- one way of the rain, bit by bit: how likely, nothing if the fire goes out -/
def gW (st : Bool → Int → Int → Int) (x : Int) : Nat → Nat → Int → Int → Int
  | 0, _, cur, _ => if 0 < cur then 1 else 0
  | n + 1, m, cur, h => if m % 2 = 1 then x * gW st x n (m / 2) (st true cur h) (h + 1) else (10 - x) * gW st x n (m / 2) (st false cur h) (h + 1)
/-- all ways -/
def FW (st : Bool → Int → Int → Int) (x : Int) : Nat → Int → Int → Int
  | 0, cur, _ => if 0 < cur then 1 else 0
  | n + 1, cur, h => (10 - x) * FW st x n (st false cur h) (h + 1) + x * FW st x n (st true cur h) (h + 1)
theorem gW_sum (st : Bool → Int → Int → Int) (x : Int) : ∀ (n : Nat) (cur h : Int), sN (fun m => gW st x n m cur h) (2 ^ n) = FW st x n cur h := by
  intro n
  induction n with
  | zero => intro cur h; show 0 + (if 0 < cur then (1 : Int) else 0) = (if 0 < cur then 1 else 0); omega
  | succ n ih =>
    intro cur h
    rw [Nat.pow_succ, Nat.mul_comm, sN_two]
    rw [sN_cong (g := fun i => (10 - x) * gW st x n i (st false cur h) (h + 1) + x * gW st x n i (st true cur h) (h + 1)) (fun i _ => ?_)]
    · rw [sN_add, sN_mul, sN_mul, ih, ih]; rfl
    · show (if 2 * i % 2 = 1 then _ else _) + (if (2 * i + 1) % 2 = 1 then _ else _) = _
      rw [if_neg (by omega), if_pos (by omega), show 2 * i / 2 = i by omega, show (2 * i + 1) / 2 = i by omega]
theorem FW_b (st : Bool → Int → Int → Int) {x : Int} (x0 : 0 ≤ x) (x1 : x ≤ 10) : ∀ (n : Nat) (cur h : Int), 0 ≤ FW st x n cur h ∧ FW st x n cur h ≤ 10 ^ n := by
  intro n
  induction n with
  | zero => intro cur h; show 0 ≤ (if 0 < cur then (1 : Int) else 0) ∧ (if 0 < cur then (1 : Int) else 0) ≤ 1; split <;> omega
  | succ n ih =>
    intro cur h
    have a := ih (st false cur h) (h + 1)
    have b := ih (st true cur h) (h + 1)
    have e1 : 0 ≤ (10 - x) * FW st x n (st false cur h) (h + 1) := Int.mul_nonneg (by omega) a.1
    have e2 : 0 ≤ x * FW st x n (st true cur h) (h + 1) := Int.mul_nonneg x0 b.1
    have e3 : (10 - x) * FW st x n (st false cur h) (h + 1) ≤ (10 - x) * 10 ^ n := Int.mul_le_mul_of_nonneg_left a.2 (by omega)
    have e4 : x * FW st x n (st true cur h) (h + 1) ≤ x * 10 ^ n := Int.mul_le_mul_of_nonneg_left b.2 x0
    have e5 : (10 : Int) ^ (n + 1) = (10 - x) * 10 ^ n + x * 10 ^ n := by rw [← Int.add_mul, Int.pow_succ, Int.mul_comm]; congr 1; omega
    show 0 ≤ _ + _ ∧ _ + _ ≤ _
    rw [e5]
    omega
/-- the ways of each heat, burnt one hour on -/
def dpS (st : Bool → Int → Int → Int) (x : Int) (W : Int → Int) (h : Int) (k : Int) : Int := sN (fun i => (if st false (i + 1) h = k then (10 - x) * W (i + 1) else 0) + (if st true (i + 1) h = k then x * W (i + 1) else 0)) 20
def dpN (st : Bool → Int → Int → Int) (x : Int) (W : Int → Int) : Nat → Int → Int
  | 0 => W
  | n + 1 => dpS st x (dpN st x W n) n
/-- a sum over heats 0..20 in which one alone counts -/
theorem sN_one (g : Int → Int) (a c : Int) (K : Nat) (h0 : 0 ≤ a) (h1 : a < K) : sN (fun k => (if a = (k : Int) then c else 0) * g k) K = c * g a := by
  induction K with
  | zero => omega
  | succ K ih =>
    rw [sN_s]
    by_cases e : a = (K : Int)
    · rw [if_pos e, sN_cong (g := fun _ => 0) (fun i hi => by rw [if_neg (by omega), Int.zero_mul]), sN_zero, e]; omega
    · rw [if_neg e, ih (by omega)]; omega
theorem sN_swap (f : Nat → Nat → Int) (n m : Nat) : sN (fun i => sN (fun j => f i j) m) n = sN (fun j => sN (fun i => f i j) n) m := by
  induction n with
  | zero => show 0 = sN (fun j => 0) m; rw [sN_zero]
  | succ n ih =>
    rw [sN_s, ih, ← sN_add]
    rfl
theorem sN_first (f : Nat → Int) (k : Nat) : sN f (k + 1) = f 0 + sN (fun i => f (i + 1)) k := by
  induction k with
  | zero => show 0 + f 0 = f 0 + 0; omega
  | succ k ih => rw [sN_s, ih, sN_s]; omega
theorem FW_out (st : Bool → Int → Int → Int) (x : Int) (h0 : ∀ b h, st b 0 h = 0) : ∀ (n : Nat) (h : Int), FW st x n 0 h = 0 := by
  intro n
  induction n with
  | zero => intro h; rfl
  | succ n ih => intro h; show (10 - x) * FW st x n (st false 0 h) (h + 1) + x * FW st x n (st true 0 h) (h + 1) = 0; rw [h0, h0, ih, Int.mul_zero, Int.mul_zero]; rfl
theorem dp_step (st : Bool → Int → Int → Int) (x : Int) (W : Int → Int) (n : Nat) (h : Int) (h0 : ∀ b h, st b 0 h = 0) (hs : ∀ b c h, 1 ≤ c → c ≤ 20 → 0 ≤ st b c h ∧ st b c h ≤ 20) :
    sN (fun k => dpS st x W h k * FW st x n k (h + 1)) 21 = sN (fun k => W k * FW st x (n + 1) k h) 21 := by
  have e1 : sN (fun k => dpS st x W h k * FW st x n k (h + 1)) 21 = sN (fun k => sN (fun i => ((if st false ((i : Int) + 1) h = (k : Int) then (10 - x) * W (i + 1) else 0) + (if st true ((i : Int) + 1) h = (k : Int) then x * W (i + 1) else 0)) * FW st x n k (h + 1)) 20) 21 :=
    sN_cong (fun k _ => by
      unfold dpS
      rw [Int.mul_comm, ← sN_mul]
      exact sN_cong (fun i _ => Int.mul_comm _ _))
  have eR : sN (fun k => W k * FW st x (n + 1) k h) 21 = sN (fun i => W ((i + 1 : Nat) : Int) * FW st x (n + 1) ((i + 1 : Nat) : Int) h) 20 := by
    rw [sN_first, show (((0 : Nat) : Int)) = 0 from rfl, FW_out st x h0, Int.mul_zero, Int.zero_add]
  rw [e1, sN_swap, eR]
  refine sN_cong (fun i hi => ?_)
  have a := hs false ((i : Int) + 1) h (by omega) (by omega)
  have b := hs true ((i : Int) + 1) h (by omega) (by omega)
  rw [sN_cong (g := fun k => (if st false ((i : Int) + 1) h = (k : Int) then (10 - x) * W (i + 1) else 0) * FW st x n k (h + 1) + (if st true ((i : Int) + 1) h = (k : Int) then x * W (i + 1) else 0) * FW st x n k (h + 1)) (fun k _ => Int.add_mul _ _ _), sN_add,
    sN_one (fun k => FW st x n k (h + 1)) _ _ 21 a.1 (by omega), sN_one (fun k => FW st x n k (h + 1)) _ _ 21 b.1 (by omega)]
  show _ = W ((i + 1 : Nat) : Int) * ((10 - x) * FW st x n (st false ((i + 1 : Nat) : Int) h) (h + 1) + x * FW st x n (st true ((i + 1 : Nat) : Int) h) (h + 1))
  rw [show (((i + 1 : Nat) : Int)) = (i : Int) + 1 by omega, Int.mul_add, Int.mul_comm (10 - x) (W _), Int.mul_comm x (W _), Int.mul_assoc, Int.mul_assoc]
theorem dp_inv (st : Bool → Int → Int → Int) (x : Int) (W : Int → Int) (h0 : ∀ b h, st b 0 h = 0) (hs : ∀ b c h, 1 ≤ c → c ≤ 20 → 0 ≤ st b c h ∧ st b c h ≤ 20) : ∀ (i n : Nat),
    sN (fun k => dpN st x W i k * FW st x n k i) 21 = sN (fun k => W k * FW st x (i + n) k 0) 21 := by
  intro i
  induction i with
  | zero => intro n; rw [Nat.zero_add]; rfl
  | succ i ih =>
    intro n
    rw [show i + 1 + n = i + (n + 1) by omega, ← ih (n + 1), ← dp_step st x (dpN st x W i) n i h0 hs]
    rfl
/-- Euclid with fuel -/
def eu : Nat → Nat → Nat → Nat
  | 0, a, _ => a
  | f + 1, a, b => if b = 0 then a else eu f b (a % b)
theorem eu_zero (f a : Nat) : eu f a 0 = a := by cases f <;> rfl
theorem eu_gcd : ∀ (k f a b : Nat), b < 2 ^ k → 2 * k ≤ f → eu f a b = Nat.gcd a b := by
  intro k
  induction k with
  | zero =>
    intro f a b hb _
    have : b = 0 := by rw [Nat.pow_zero] at hb; omega
    rw [this, eu_zero, Nat.gcd_zero_right]
  | succ k ih =>
    intro f a b hb hf
    by_cases b0 : b = 0
    · rw [b0, eu_zero, Nat.gcd_zero_right]
    · obtain ⟨f', rfl⟩ : ∃ f', f = f' + 1 + 1 := ⟨f - 2, by omega⟩
      show (if b = 0 then a else eu (f' + 1) b (a % b)) = _
      rw [if_neg b0, Nat.gcd_comm, Nat.gcd_rec b a]
      by_cases r0 : a % b = 0
      · rw [r0, eu_zero, Nat.gcd_zero_left]
      · show (if a % b = 0 then b else eu f' (a % b) (b % (a % b))) = _
        have l1 : a % b < b := Nat.mod_lt _ (by omega)
        have l2 : b % (a % b) < a % b := Nat.mod_lt _ (by omega)
        have l3 : b % (a % b) ≤ b - a % b := by
          rw [Nat.mod_eq_sub_mod (by omega)]
          exact Nat.mod_le _ _
        rw [if_neg r0, ih f' (a % b) (b % (a % b)) (by rw [Nat.pow_succ] at hb; omega) (by omega), Nat.gcd_comm, ← Nat.gcd_rec]