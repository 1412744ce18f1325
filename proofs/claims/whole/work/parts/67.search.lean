/-! searches: the first of many in order -/
def fstN {α : Type} (f : Nat → Option α) : Nat → Nat → Option α
  | 0, _ => none
  | k + 1, w => match f w with
    | some p => some p
    | none => fstN f k (w + 1)
theorem fstN_s {α : Type} {f : Nat → Option α} {k w : Nat} : fstN f (k + 1) w = match f w with
    | some p => some p
    | none => fstN f k (w + 1) := rfl
theorem fstN_some {α : Type} {f : Nat → Option α} {p : α} : ∀ (k w : Nat), fstN f k w = some p → ∃ v, w ≤ v ∧ v < w + k ∧ f v = some p := by
  intro k
  induction k with
  | zero => intro w h; cases h
  | succ k ih =>
    intro w h
    rw [fstN_s] at h
    cases e : f w with
    | some q =>
      rw [e] at h
      exact ⟨w, Nat.le_refl _, by omega, e.trans h⟩
    | none =>
      rw [e] at h
      obtain ⟨v, h1, h2, h3⟩ := ih (w + 1) h
      exact ⟨v, by omega, by omega, h3⟩
def FS {α : Type} (Q : Nat → Bool) (G : α → Nat → Prop) (lo hi : Nat) (o : Option α) : Prop := (o = none → ∀ c, lo ≤ c → c < hi → Q c = false) ∧ (∀ p, o = some p → ∃ c, lo ≤ c ∧ c < hi ∧ G p c ∧ Q c = true ∧ ∀ c', lo ≤ c' → c' < c → Q c' = false)
theorem fstN_FS {α : Type} {Q : Nat → Bool} {G : α → Nat → Prop} {b N : Nat} {f : Nat → Option α} (h : ∀ w, w < b → FS Q G (w * N) ((w + 1) * N) (f w)) : ∀ (k w : Nat), w + k = b → FS Q G (w * N) (b * N) (fstN f k w) := by
  intro k
  induction k with
  | zero =>
    intro w e
    refine ⟨fun _ c h1 h2 => ?_, fun p hp => by cases hp⟩
    rw [show w = b by omega] at h1
    omega
  | succ k ih =>
    intro w e
    have hw := h w (by omega)
    have i := ih (w + 1) (by omega)
    have le : (w + 1) * N ≤ b * N := Nat.mul_le_mul_right N (by omega)
    rw [fstN_s]
    cases ef : f w with
    | some p =>
      refine ⟨fun q => (by cases q), fun q hq => ?_⟩
      obtain ⟨c, c1, c2, c3⟩ := hw.2 p ef
      have : q = p := (Option.some.inj hq).symm
      subst this
      exact ⟨c, c1, by omega, c3⟩
    | none =>
      have n := hw.1 ef
      refine ⟨fun q c h1 h2 => ?_, fun p hp => ?_⟩
      · by_cases hc : c < (w + 1) * N
        · exact n c h1 hc
        · exact i.1 q c (by omega) h2
      · obtain ⟨c, c1, c2, c3, c4, c5⟩ := i.2 p hp
        have le2 : w * N ≤ (w + 1) * N := Nat.mul_le_mul_right N (by omega)
        refine ⟨c, by omega, c2, c3, c4, fun c' h1 h2 => ?_⟩
        by_cases hc : c' < (w + 1) * N
        · exact n c' h1 hc
        · exact c5 c' (by omega) h2
/-- digit i of n (the first one is 0) -/
def dgN (b n c i : Nat) : Nat := (c / b ^ (n - 1 - i)) % b
theorem dgN_0 {b n w c' : Nat} (hw : w < b) (hc : c' < b ^ n) : dgN b (n + 1) (w * b ^ n + c') 0 = w := by
  unfold dgN
  rw [show n + 1 - 1 - 0 = n by omega, Nat.mul_comm w, Nat.mul_add_div (by omega), Nat.div_eq_of_lt hc, Nat.add_zero, Nat.mod_eq_of_lt hw]
theorem dgN_s {b n w c' i : Nat} (hb : 0 < b) (hi : i < n) : dgN b (n + 1) (w * b ^ n + c') (i + 1) = dgN b n c' i := by
  unfold dgN
  rw [show n + 1 - 1 - (i + 1) = n - 1 - i by omega]
  have e : b ^ n = b ^ (n - 1 - i) * (b * b ^ i) := by
    rw [show b * b ^ i = b ^ (i + 1) by rw [Nat.pow_succ, Nat.mul_comm], ← Nat.pow_add]
    congr 1; omega
  rw [e, show w * (b ^ (n - 1 - i) * (b * b ^ i)) = b ^ (n - 1 - i) * (b * (w * b ^ i)) by
    rw [Nat.mul_left_comm, Nat.mul_left_comm w b], Nat.mul_add_div (Nat.pow_pos hb), Nat.mul_add_mod]
theorem dgN_lt {b n c i : Nat} (hb : 0 < b) : dgN b n c i < b := Nat.mod_lt _ hb
def dgI (b n c : Nat) (i : Nat) : Int := (dgN b n c i : Nat)
def cns (w : Int) (p : Nat → Int) : Nat → Int
  | 0 => w
  | i + 1 => p i
/-! telling -/
def ckT (C : Int → Int → Int) (wt : Int) : Nat → (Nat → Int) → (Int → Int) → Int → Int → Bool
  | 0, _, _, _, at_ => decide (at_ = wt)
  | n + 1, r, lg, hot, at_ => decide (1 ≤ lg (r 0)) && (decide (1 ≤ fedI hot (r 0)) && ckT C wt n (fun i => r (i + 1)) (up1 lg (r 0) (lg (r 0) - 1)) (fedI hot (r 0)) (C at_ (r 0)))
theorem ckT_cong {C : Int → Int → Int} {wt : Int} : ∀ (n : Nat) (r r' : Nat → Int) (lg : Int → Int) (hot at_ : Int), (∀ i, i < n → r i = r' i) → ckT C wt n r lg hot at_ = ckT C wt n r' lg hot at_ := by
  intro n
  induction n with
  | zero => intro r r' lg hot at_ _; rfl
  | succ n ih =>
    intro r r' lg hot at_ h
    unfold ckT
    rw [h 0 (by omega), ih (fun i => r (i + 1)) (fun i => r' (i + 1)) _ _ _ (fun i hi => h (i + 1) (by omega))]
def tlF (tln : (Int → Int) → Int → Int → Option (Nat → Int)) (C : Int → Int → Int) (lg : Int → Int) (hot at_ : Int) (w : Nat) : Option (Nat → Int) :=
  if 1 ≤ lg w ∧ 1 ≤ fedI hot w then (match tln (up1 lg w (lg w - 1)) (fedI hot w) (C at_ w) with
    | some p => some (cns w p)
    | none => none) else none
def tl (C : Int → Int → Int) (wt : Int) : Nat → (Int → Int) → Int → Int → Option (Nat → Int)
  | 0, _, _, at_ => if at_ = wt then some (fun _ => 0) else none
  | n + 1, lg, hot, at_ => fstN (tlF (tl C wt n) C lg hot at_) 4 0
theorem tl_ok {C : Int → Int → Int} {wt : Int} : ∀ (n : Nat) (lg : Int → Int) (hot at_ : Int), FS (fun c => ckT C wt n (dgI 4 n c) lg hot at_) (fun p c => ∀ i, i < n → p i = dgI 4 n c i) 0 (4 ^ n) (tl C wt n lg hot at_) := by
  intro n
  induction n with
  | zero =>
    intro lg hot at_
    refine ⟨fun h c _ hc => ?_, fun p hp => ⟨0, Nat.le_refl _, by decide, fun i hi => absurd hi (by omega), ?_, fun c' _ hc => absurd hc (by omega)⟩⟩
    · unfold tl at h
      split at h
      · cases h
      · rename_i e; exact decide_eq_false e
    · unfold tl at hp
      split at hp
      · rename_i e; exact decide_eq_true e
      · cases hp
  | succ n ih =>
    intro lg hot at_
    have key := fstN_FS (Q := fun c => ckT C wt (n + 1) (dgI 4 (n + 1) c) lg hot at_) (G := fun (p : Nat → Int) c => ∀ i, i < n + 1 → p i = dgI 4 (n + 1) c i) (b := 4) (N := 4 ^ n) (f := tlF (tl C wt n) C lg hot at_) (fun w hw => ?_) 4 0 rfl
    · rw [Nat.zero_mul, show 4 * 4 ^ n = 4 ^ (n + 1) by rw [Nat.pow_succ, Nat.mul_comm]] at key
      exact key
    · have i1 := ih (up1 lg w (lg w - 1)) (fedI hot w) (C at_ w)
      have hQ : ∀ c', c' < 4 ^ n → ckT C wt (n + 1) (dgI 4 (n + 1) (w * 4 ^ n + c')) lg hot at_ = (decide (1 ≤ lg w) && (decide (1 ≤ fedI hot w) && ckT C wt n (dgI 4 n c') (up1 lg w (lg w - 1)) (fedI hot w) (C at_ w))) := fun c' hc' => by
        have e0 : dgI 4 (n + 1) (w * 4 ^ n + c') 0 = (w : Int) := by unfold dgI; rw [dgN_0 hw hc']
        show (decide (1 ≤ lg (dgI 4 (n + 1) (w * 4 ^ n + c') 0)) && _) = _
        rw [e0, ckT_cong n (fun i => dgI 4 (n + 1) (w * 4 ^ n + c') (i + 1)) (dgI 4 n c') _ _ _ (fun i hi => by unfold dgI; rw [dgN_s (by decide) hi])]
      have sp : ∀ c, w * 4 ^ n ≤ c → c < (w + 1) * 4 ^ n → ∃ c', c' < 4 ^ n ∧ c = w * 4 ^ n + c' := fun c a b => ⟨c - w * 4 ^ n, by rw [Nat.add_mul] at b; omega, by omega⟩
      unfold tlF
      by_cases g : 1 ≤ lg w ∧ 1 ≤ fedI hot w
      · rw [if_pos g]
        rw [decide_eq_true g.1, decide_eq_true g.2] at hQ
        cases e : tl C wt n (up1 lg w (lg w - 1)) (fedI hot w) (C at_ w) with
        | none =>
          refine ⟨fun _ c a b => ?_, fun p hp => by cases hp⟩
          obtain ⟨c', h1, h2⟩ := sp c a b
          show ckT C wt (n + 1) (dgI 4 (n + 1) c) lg hot at_ = false
          rw [h2, hQ c' h1]
          exact i1.1 e c' (Nat.zero_le _) h1
        | some q =>
          refine ⟨fun h => (by cases h), fun p hp => ?_⟩
          have : p = cns w q := (Option.some.inj hp).symm
          subst this
          obtain ⟨c', _, h2, h3, h4, h5⟩ := i1.2 q e
          have hlt : w * 4 ^ n + c' < (w + 1) * 4 ^ n := by rw [Nat.add_mul]; omega
          refine ⟨w * 4 ^ n + c', by omega, hlt, fun i hi => ?_, ?_, fun d a b => ?_⟩
          · cases i with
            | zero => show (w : Int) = _; unfold dgI; rw [dgN_0 hw h2]
            | succ i => show q i = _; rw [h3 i (by omega)]; unfold dgI; rw [dgN_s (by decide) (by omega)]
          · show ckT C wt (n + 1) (dgI 4 (n + 1) (w * 4 ^ n + c')) lg hot at_ = true
            rw [hQ c' h2]; exact h4
          · obtain ⟨d', k1, k2⟩ := sp d a (by omega)
            show ckT C wt (n + 1) (dgI 4 (n + 1) d) lg hot at_ = false
            rw [k2, hQ d' k1]
            exact h5 d' (Nat.zero_le _) (by omega)
      · rw [if_neg g]
        refine ⟨fun _ c a b => ?_, fun p hp => by cases hp⟩
        obtain ⟨c', h1, h2⟩ := sp c a b
        show ckT C wt (n + 1) (dgI 4 (n + 1) c) lg hot at_ = false
        rw [h2, hQ c' h1]
        by_cases g1 : 1 ≤ lg w
        · rw [decide_eq_true g1, decide_eq_false (fun g2 => g ⟨g1, g2⟩)]; rfl
        · rw [decide_eq_false g1]; rfl
/-- a line that is told lies in every closed set of lines that holds the start -/
theorem tl_in {C : Int → Int → Int} {wt : Int} {S : Int → Prop} (hS : ∀ l w, S l → 0 ≤ w → w < 4 → S (C l w)) : ∀ (n : Nat) (lg : Int → Int) (hot at_ : Int) (p : Nat → Int), S at_ → tl C wt n lg hot at_ = some p → S wt := by
  intro n
  induction n with
  | zero =>
    intro lg hot at_ p h e
    unfold tl at e
    split at e
    · rename_i q; rw [← q]; exact h
    · cases e
  | succ n ih =>
    intro lg hot at_ p h e
    obtain ⟨v, h1, h2, h3⟩ := fstN_some 4 0 e
    unfold tlF at h3
    split at h3
    · cases e2 : tl C wt n (up1 lg v (lg v - 1)) (fedI hot v) (C at_ v) with
      | none => rw [e2] at h3; cases h3
      | some q => exact ih _ _ _ q (hS _ _ h (by omega) (by omega)) e2
    · cases h3
/-- the first length by which it is told -/
def tlA (C : Int → Int → Int) (wt : Int) (lg : Int → Int) (hot at_ : Int) : Nat → Nat → Option (Nat × (Nat → Int))
  | 0, _ => none
  | f + 1, n => match tl C wt n lg hot at_ with
    | some p => some (n, p)
    | none => tlA C wt lg hot at_ f (n + 1)
theorem tlA_s {C : Int → Int → Int} {wt : Int} {lg : Int → Int} {hot at_ : Int} {f n : Nat} : tlA C wt lg hot at_ (f + 1) n = match tl C wt n lg hot at_ with
    | some p => some (n, p)
    | none => tlA C wt lg hot at_ f (n + 1) := rfl
theorem tlA_none {C : Int → Int → Int} {wt : Int} {lg : Int → Int} {hot at_ : Int} (h : ∀ n, tl C wt n lg hot at_ = none) (f n : Nat) : tlA C wt lg hot at_ f n = none := by
  induction f generalizing n with
  | zero => rfl
  | succ f ih => rw [tlA_s, h n]; exact ih _
def ansT (R : Option (Nat × (Nat → Int))) (k : Int) : Int := match R with
  | none => -4
  | some (n, p) => if k = -1 then (n : Int) else if k < n then p k.toNat else -4