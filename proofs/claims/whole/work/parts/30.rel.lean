/-! THE RELATION between the class' state and the reference's: both lie in one St -/
def CampRel (s : St) (c a : Nat) (o n L K : Int) : Prop :=
  CampOk s c n ∧ vF s c 2 = vA s a (o + 32) ∧ vF s c 2 ≤ 24 * K ∧
  (∀ k, 0 ≤ k → k < n → cg s c k 0 = vA s a (o + k) ∧ cg s c k 1 = vA s a (o + 4 + k) ∧ cg s c k 6 = vA s a (o + 24 + k) ∧ cg s c k 7 = vA s a (o + 28 + k) ∧ cg s c k 7 ≤ K ∧ (cg s c k 0 = 0 → cg s c k 1 = -4 ∧ cg s c k 6 = -4) ∧ (1 ≤ cg s c k 0 → 0 ≤ cg s c k 1 ∧ cg s c k 1 < L)) ∧
  (∀ k w, 0 ≤ k → k < n → 0 ≤ w → w < 4 → cg s c k (2 + w) = vA s a (o + 8 + 4 * k + w)) ∧
  (∀ k, n ≤ k → k < 4 → vA s a (o + k) = 0 ∧ vA s a (o + 28 + k) = 0 ∧ ∀ w, 0 ≤ w → w < 4 → vA s a (o + 8 + 4 * k + w) = 0)
def RelText (s : St) : Prop := 0 ≤ vF s 1 1 ∧ vF s 1 1 ≤ 200 ∧ vF s 95 11 = vF s 1 1 ∧ ∀ j, 0 ≤ j → j < vF s 1 1 → vA s 103 j = vA s 2 j ∧ 32 ≤ vA s 2 j ∧ vA s 2 j ≤ 126
def RelSeen (s : St) : Prop := 0 ≤ vF s 3 1 ∧ vF s 3 1 ≤ 6 ∧ vF s 95 9 = vF s 3 1 ∧ ∀ j, 0 ≤ j → j < vF s 3 1 → vA s 102 j = vA s 4 j ∧ 0 ≤ vA s 4 j ∧ vA s 4 j < 4
def RelTale (s : St) : Prop := TaleOk s 5 ∧ 1 ≤ vF s 5 4 ∧ vA s 96 0 = vF s 5 4 ∧ vA s 96 1 = vF s 8 1 ∧ (∀ j, 0 ≤ j → j < 4 * vF s 5 4 → vA s 96 (3 + j) = vA s 7 j ∧ (vA s 7 j = 9 ∨ vA s 7 j < vF s 5 4)) ∧ (∀ j, 0 ≤ j → j < vF s 8 1 → vA s 96 (39 + j) = vA s 9 j) ∧ 1 ≤ vA s 96 2 ∧ vA s 96 2 ≤ 4
def RelPast (s : St) (n L K : Int) : Prop := 0 ≤ vF s 20 1 ∧ vF s 20 1 ≤ K ∧ 0 ≤ vF s 20 2 ∧ vF s 20 2 ≤ 8 ∧ vF s 95 5 = vF s 20 2 ∧ ∀ j : Nat, (j : Int) < vF s 20 2 → CampRel s (22 + 3 * ((vF s 20 1 + j) % 8).toNat) 100 (33 * j) n L K
def RelKept (s : St) (n L K : Int) : Prop := vF s 46 1 = 0 ∧ 0 ≤ vF s 46 2 ∧ vF s 46 2 ≤ 2 ∧ vF s 95 7 = vF s 46 2 ∧ ∀ j : Nat, (j : Int) < vF s 46 2 → CampRel s (48 + 3 * j) 101 (33 * j) n L K
/-- behind K calls -/
def Rel (K : Int) (s : St) : Prop := 0 ≤ K ∧ RelText s ∧ RelSeen s ∧ RelTale s ∧ CampRel s 14 98 0 (vA s 96 2) (vF s 5 4) K ∧ RelPast s (vA s 96 2) (vF s 5 4) K ∧ RelKept s (vA s 96 2) (vF s 5 4) K
/-- one call on both sides: the same answer, the relation again -/
def Both (X : vX) (K : Int) (s : St) (c m : Nat) (as : List Value) : Prop := ∃ (z : Int) (s1 s2 : St), rg z ∧ OkI X 100 c (.ref 0 :: as) s (Is1 z s1) ∧ OkI X 100 m (.ref 95 :: as) s1 (Is1 z s2) ∧ Rel (K + 1) s2