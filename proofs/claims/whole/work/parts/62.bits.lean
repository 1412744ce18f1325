/-! can: lines as bits -/
def bq (x : Int32) (i : Nat) : Bool := x.toBitVec.getLsbD i
theorem bq_ext {x y : Int32} (h : ∀ i, i < 32 → bq x i = bq y i) : x = y := Int32.toBitVec_inj.mp (BitVec.eq_of_getLsbD_eq (fun i hi => h i hi))
theorem bq_or (x y : Int32) (i : Nat) : bq (x ||| y) i = (bq x i || bq y i) := by unfold bq; rw [Int32.toBitVec_or, BitVec.getLsbD_or]
theorem bq_and (x y : Int32) (i : Nat) : bq (x &&& y) i = (bq x i && bq y i) := by unfold bq; rw [Int32.toBitVec_and, BitVec.getLsbD_and]
theorem bq_0 (i : Nat) : bq (iI 0) i = false := BitVec.getLsbD_zero
theorem bq_sl : ∀ n, n < 32 → ((iI ((n : Nat) : Int) &&& 31).toBitVec.smod 32).toNat = n := by decide +kernel
theorem bq_sh1 : ∀ l, l < 32 → ∀ i, i < 32 → bq (iI 1 <<< (iI ((l : Nat) : Int) &&& 31)) i = decide (i = l) := by decide +kernel
theorem bq_1 : ∀ i, i < 32 → bq (iI 1) i = decide (i = 0) := by decide +kernel
theorem bq_sshr (n : Nat) (hn : n < 32) (x : Int32) {i : Nat} (hi : i < 32) : bq (x >>> (iI ((n : Nat) : Int) &&& 31)) i = if n + i < 32 then bq x (n + i) else bq x 31 := by
  unfold bq
  rw [Int32.toBitVec_shiftRight]
  show (x.toBitVec.sshiftRight ((iI ((n : Nat) : Int) &&& 31).toBitVec.smod 32).toNat).getLsbD i = _
  rw [bq_sl n hn, BitVec.getLsbD_sshiftRight, BitVec.msb_eq_getLsbD_last]
  simp [hi]
theorem bq_shI {l : Int} (h0 : 0 ≤ l) (h1 : l < 32) {i : Nat} (hi : i < 32) : bq (iI (shI l)) i = decide (i = l.toNat) := by
  rw [← shI_e]
  have := bq_sh1 l.toNat (by omega) i hi
  rw [show ((l.toNat : Nat) : Int) = l by omega] at this
  exact this
theorem bq_orI (a b : Int) (i : Nat) : bq (iI (orI a b)) i = (bq (iI a) i || bq (iI b) i) := by rw [← orI_e, bq_or]
def biI (b l : Int) : Int := if bq (iI b) l.toNat = true then 1 else 0
theorem biI_e {b l : Int} (h0 : 0 ≤ l) (h1 : l < 32) : iI (iI b >>> (iI l &&& 31)).toInt &&& iI 1 = iI (biI b l) := by
  rw [iI_of]
  refine bq_ext (fun i hi => ?_)
  have e := bq_sshr l.toNat (by omega) (iI b) hi
  rw [show ((l.toNat : Nat) : Int) = l by omega] at e
  rw [bq_and, e, bq_1 i hi]
  unfold biI
  by_cases h : i = 0
  · subst h
    rw [if_pos (by omega), Nat.add_zero]
    split
    · rename_i q; rw [q, bq_1 0 (by omega)]; rfl
    · rename_i q
      have : bq (iI b) l.toNat = false := by cases hq : bq (iI b) l.toNat with
        | true => exact absurd hq q
        | false => rfl
      rw [this, bq_0]; rfl
  · rw [decide_eq_false h, Bool.and_false]
    split
    · rw [bq_1 i hi, decide_eq_false h]
    · rw [bq_0]
theorem biI_b (b l : Int) : 0 ≤ biI b l ∧ biI b l ≤ 1 := by unfold biI; split <;> omega
theorem biI_t {b l : Int} : biI b l = 1 ↔ bq (iI b) l.toNat = true := by
  unfold biI
  split
  · rename_i h; exact ⟨fun _ => h, fun _ => rfl⟩
  · rename_i h; exact ⟨fun e => absurd e (by omega), fun e => absurd e h⟩
/-- lines that come from those of had, by m turns of line and wood -/
def accB (C : Int → Int → Int) (had a : Int) : Nat → Int
  | 0 => a
  | m + 1 => if bq (iI had) (m / 4) = true then orI (accB C had a m) (shI (C ((m : Int) / 4) ((m : Int) % 4))) else accB C had a m
theorem accB_s {C : Int → Int → Int} {had a i j : Int} (hi : 0 ≤ i) (hj : 0 ≤ j) (hj4 : j < 4) : accB C had a (4 * i + (j + 1)).toNat = if bq (iI had) i.toNat = true then orI (accB C had a (4 * i + j).toNat) (shI (C i j)) else accB C had a (4 * i + j).toNat := by
  rw [show (4 * i + (j + 1)).toNat = (4 * i + j).toNat + 1 by omega]
  show (if bq (iI had) ((4 * i + j).toNat / 4) = true then orI _ (shI (C (((4 * i + j).toNat : Int) / 4) (((4 * i + j).toNat : Int) % 4))) else _) = _
  rw [show ((4 * i + j).toNat : Int) / 4 = i by omega, show ((4 * i + j).toNat : Int) % 4 = j by omega, show (4 * i + j).toNat / 4 = i.toNat by omega]
theorem accB_skip {C : Int → Int → Int} {had a i : Int} (hi : 0 ≤ i) (hb : ¬ bq (iI had) i.toNat = true) (k : Nat) (hk : k ≤ 4) : accB C had a (4 * i + (4 - k)).toNat = accB C had a (4 * i + 4).toNat := by
  induction k with
  | zero => rw [show 4 * i + (4 - ((0 : Nat) : Int)) = 4 * i + 4 by omega]
  | succ k ih =>
    rw [← ih (by omega)]
    have e := accB_s (C := C) (had := had) (a := a) hi (j := 4 - ((k : Int) + 1)) (by omega) (by omega)
    rw [if_neg hb, show 4 * i + (4 - ((k : Int) + 1) + 1) = 4 * i + (4 - (k : Int)) by omega] at e
    rw [show 4 * i + (4 - ((k + 1 : Nat) : Int)) = 4 * i + (4 - ((k : Int) + 1)) by omega]
    exact e.symm
theorem accB_rg {C : Int → Int → Int} {had a : Int} (ha : rg a) (m : Nat) : rg (accB C had a m) := by
  induction m with
  | zero => exact ha
  | succ m ih =>
    show rg (if _ then _ else _)
    split
    · exact rg_of _
    · exact ih
theorem accB_cong {C C' : Int → Int → Int} {had a L : Int} (h : ∀ l w, 0 ≤ l → l < L → 0 ≤ w → w < 4 → C l w = C' l w) (m : Nat) (hm : (m : Int) ≤ 4 * L) : accB C had a m = accB C' had a m := by
  induction m with
  | zero => rfl
  | succ m ih =>
    show (if bq (iI had) (m / 4) = true then orI (accB C had a m) (shI (C ((m : Int) / 4) ((m : Int) % 4))) else accB C had a m) = (if bq (iI had) (m / 4) = true then orI (accB C' had a m) (shI (C' ((m : Int) / 4) ((m : Int) % 4))) else accB C' had a m)
    rw [h _ _ (by omega) (by omega) (by omega) (by omega), ih (by omega)]
/-- which bits there are -/
theorem accB_bit {C : Int → Int → Int} {had a L : Int} (hL : L ≤ 32) (hC : ∀ l w, 0 ≤ l → l < L → 0 ≤ w → w < 4 → 0 ≤ C l w ∧ C l w < L) {i : Nat} (hi : i < 32) (m : Nat) (hm : (m : Int) ≤ 4 * L) : bq (iI (accB C had a m)) i = true ↔ (bq (iI a) i = true ∨ ∃ q : Nat, q < m ∧ bq (iI had) (q / 4) = true ∧ C ((q : Int) / 4) ((q : Int) % 4) = (i : Int)) := by
  induction m with
  | zero =>
    refine ⟨fun h => Or.inl h, fun h => ?_⟩
    rcases h with h | ⟨q, hq, _⟩
    · exact h
    · omega
  | succ m ih =>
    have ih := ih (by omega)
    have c := hC ((m : Int) / 4) ((m : Int) % 4) (by omega) (by omega) (by omega) (by omega)
    have e : accB C had a (m + 1) = if bq (iI had) (m / 4) = true then orI (accB C had a m) (shI (C ((m : Int) / 4) ((m : Int) % 4))) else accB C had a m := rfl
    rw [e]
    by_cases hb : bq (iI had) (m / 4) = true
    · rw [if_pos hb, bq_orI, bq_shI c.1 (by omega) hi]
      constructor
      · intro h
        cases h1 : bq (iI (accB C had a m)) i with
        | true =>
          rcases ih.mp h1 with h2 | ⟨q, hq, h2⟩
          · exact Or.inl h2
          · exact Or.inr ⟨q, by omega, h2⟩
        | false =>
          rw [h1, Bool.false_or] at h
          have := of_decide_eq_true h
          exact Or.inr ⟨m, by omega, hb, by omega⟩
      · intro h
        rcases h with h | ⟨q, hq, h2, h3⟩
        · rw [ih.mpr (Or.inl h)]; rfl
        · by_cases eq : q = m
          · subst eq
            rw [h3, decide_eq_true (by omega), Bool.or_true]
          · rw [ih.mpr (Or.inr ⟨q, by omega, h2, h3⟩)]; rfl
    · rw [if_neg hb, ih]
      constructor
      · intro h
        rcases h with h | ⟨q, hq, h2⟩
        · exact Or.inl h
        · exact Or.inr ⟨q, by omega, h2⟩
      · intro h
        rcases h with h | ⟨q, hq, h2⟩
        · exact Or.inl h
        · refine Or.inr ⟨q, ?_, h2⟩
          have : q ≠ m := fun e => hb (e ▸ h2.1)
          omega
def stB (C : Int → Int → Int) (L b : Int) : Int := orI b (accB C b 0 (4 * L).toNat)
theorem stB_m {C : Int → Int → Int} {L b : Int} (hL0 : 0 ≤ L) (hL : L ≤ 32) (hC : ∀ l w, 0 ≤ l → l < L → 0 ≤ w → w < 4 → 0 ≤ C l w ∧ C l w < L) : iI (accB C b b (4 * L).toNat) = iI (stB C L b) := by
  refine bq_ext (fun i hi => ?_)
  have h1 := accB_bit (had := b) (a := b) hL hC hi (4 * L).toNat (by omega)
  have h2 := accB_bit (had := b) (a := 0) hL hC hi (4 * L).toNat (by omega)
  unfold stB
  rw [bq_orI]
  rw [bq_0] at h2
  cases e1 : bq (iI (accB C b b (4 * L).toNat)) i with
  | true =>
    rcases h1.mp e1 with h | h
    · rw [h]; rfl
    · rw [h2.mpr (Or.inr h), Bool.or_true]
  | false =>
    cases e2 : bq (iI b) i with
    | true => rw [h1.mpr (Or.inl e2)] at e1; exact absurd e1 (by decide)
    | false =>
      cases e3 : bq (iI (accB C b 0 (4 * L).toNat)) i with
      | true =>
        rcases h2.mp e3 with h | h
        · exact absurd h (by decide)
        · rw [h1.mpr (Or.inr h)] at e1; exact absurd e1 (by decide)
      | false => rfl
def itB (C : Int → Int → Int) (L b : Int) : Nat → Int
  | 0 => b
  | k + 1 => stB C L (itB C L b k)
theorem itB_rg {C : Int → Int → Int} {L b : Int} (hb : rg b) (k : Nat) : rg (itB C L b k) := by
  cases k with
  | zero => exact hb
  | succ k => exact rg_of _
/-- how many of the first L bits -/
def crd (b : Int) : Nat → Nat
  | 0 => 0
  | l + 1 => crd b l + (if bq (iI b) l = true then 1 else 0)
theorem crd_le (b : Int) (n : Nat) : crd b n ≤ n := by
  induction n with
  | zero => exact Nat.le_refl _
  | succ n ih =>
    show crd b n + (if _ then 1 else 0) ≤ n + 1
    split <;> omega
theorem crd_mono {a b : Int} (n : Nat) (h : ∀ i, i < n → bq (iI a) i = true → bq (iI b) i = true) : crd a n ≤ crd b n := by
  induction n with
  | zero => exact Nat.le_refl _
  | succ n ih =>
    have i := ih (fun i hi => h i (by omega))
    show crd a n + (if bq (iI a) n = true then 1 else 0) ≤ crd b n + (if bq (iI b) n = true then 1 else 0)
    by_cases e : bq (iI a) n = true
    · rw [if_pos e, if_pos (h n (by omega) e)]; omega
    · rw [if_neg e]; omega
theorem crd_lt {a b : Int} (n j : Nat) (hj : j < n) (h : ∀ i, i < n → bq (iI a) i = true → bq (iI b) i = true) (ha : ¬ bq (iI a) j = true) (hb : bq (iI b) j = true) : crd a n + 1 ≤ crd b n := by
  induction n with
  | zero => omega
  | succ n ih =>
    show crd a n + (if bq (iI a) n = true then 1 else 0) + 1 ≤ crd b n + (if bq (iI b) n = true then 1 else 0)
    by_cases e : j = n
    · subst e
      have := crd_mono (a := a) (b := b) j (fun i hi => h i (by omega))
      rw [if_neg ha, if_pos hb]; omega
    · have i := ih (by omega) (fun i hi => h i (by omega))
      by_cases e2 : bq (iI a) n = true
      · rw [if_pos e2, if_pos (h n (by omega) e2)]; omega
      · rw [if_neg e2]; omega
theorem crd_all {b : Int} (n : Nat) (h : n ≤ crd b n) : ∀ i, i < n → bq (iI b) i = true := by
  induction n with
  | zero => intro i hi; omega
  | succ n ih =>
    have e : crd b (n + 1) = crd b n + (if bq (iI b) n = true then 1 else 0) := rfl
    have l := crd_le b n
    rw [e] at h
    by_cases q : bq (iI b) n = true
    · rw [if_pos q] at h
      intro i hi
      by_cases ei : i = n
      · rw [ei]; exact q
      · exact ih (by omega) i (by omega)
    · rw [if_neg q] at h; omega
/-- only the first L bits -/
def low (L b : Int) : Prop := ∀ i : Nat, i < 32 → L ≤ (i : Int) → bq (iI b) i = false
section FIX
variable {C : Int → Int → Int} {L : Int}
theorem stB_up {b : Int} {i : Nat} (h : bq (iI b) i = true) : bq (iI (stB C L b)) i = true := by unfold stB; rw [bq_orI, h]; rfl
theorem stB_low (hL0 : 0 ≤ L) (hL : L ≤ 32) (hC : ∀ l w, 0 ≤ l → l < L → 0 ≤ w → w < 4 → 0 ≤ C l w ∧ C l w < L) {b : Int} (h : low L b) : low L (stB C L b) := by
  intro i hi hl
  unfold stB
  rw [bq_orI, h i hi hl, Bool.false_or]
  cases e : bq (iI (accB C b 0 (4 * L).toNat)) i with
  | false => rfl
  | true =>
    rcases (accB_bit (had := b) (a := 0) hL hC hi (4 * L).toNat (by omega)).mp e with h | ⟨q, hq, _, h3⟩
    · rw [bq_0] at h; exact absurd h (by decide)
    · have := hC ((q : Int) / 4) ((q : Int) % 4) (by omega) (by omega) (by omega) (by omega)
      omega
theorem stB_grow (hL0 : 0 ≤ L) (hL : L ≤ 32) (hC : ∀ l w, 0 ≤ l → l < L → 0 ≤ w → w < 4 → 0 ≤ C l w ∧ C l w < L) {b : Int} (h : low L b) (hn : ¬ iI (stB C L b) = iI b) : crd b L.toNat + 1 ≤ crd (stB C L b) L.toNat := by
  have ex : ∃ j, j < L.toNat ∧ ¬ bq (iI b) j = true ∧ bq (iI (stB C L b)) j = true := by
    refine Classical.byContradiction (fun hx => hn ?_)
    refine bq_ext (fun i hi => ?_)
    by_cases hl : L ≤ (i : Int)
    · rw [h i hi hl, stB_low hL0 hL hC h i hi hl]
    · cases e1 : bq (iI b) i with
      | true => exact stB_up e1
      | false =>
        cases e2 : bq (iI (stB C L b)) i with
        | false => rfl
        | true => exact absurd ⟨i, by omega, by rw [e1]; decide, e2⟩ hx
  obtain ⟨j, hj, h1, h2⟩ := ex
  exact crd_lt _ j hj (fun i _ e => stB_up e) h1 h2
theorem itB_low (hL0 : 0 ≤ L) (hL : L ≤ 32) (hC : ∀ l w, 0 ≤ l → l < L → 0 ≤ w → w < 4 → 0 ≤ C l w ∧ C l w < L) {b : Int} (h : low L b) (k : Nat) : low L (itB C L b k) := by
  induction k with
  | zero => exact h
  | succ k ih => exact stB_low hL0 hL hC ih
theorem stB_cg {a b : Int} (e : iI a = iI b) : iI (stB C L a) = iI (stB C L b) := by
  have : accB C a 0 (4 * L).toNat = accB C b 0 (4 * L).toNat := by
    generalize (4 * L).toNat = m
    induction m with
    | zero => rfl
    | succ m ih =>
      show (if bq (iI a) (m / 4) = true then orI (accB C a 0 m) _ else accB C a 0 m) = (if bq (iI b) (m / 4) = true then orI (accB C b 0 m) _ else accB C b 0 m)
      rw [e, ih]
  unfold stB
  rw [← orI_e, ← orI_e, e, this]
theorem itB_stay {b : Int} {k : Nat} (h : iI (itB C L b (k + 1)) = iI (itB C L b k)) (m : Nat) : iI (itB C L b (k + m)) = iI (itB C L b k) := by
  induction m with
  | zero => rfl
  | succ m ih =>
    show iI (stB C L (itB C L b (k + m))) = _
    rw [stB_cg ih]
    exact h
theorem itB_or (hL0 : 0 ≤ L) (hL : L ≤ 32) (hC : ∀ l w, 0 ≤ l → l < L → 0 ≤ w → w < 4 → 0 ≤ C l w ∧ C l w < L) {b : Int} (h : low L b) (h1 : 1 ≤ crd b L.toNat) (k : Nat) : iI (itB C L b (k + 1)) = iI (itB C L b k) ∨ k + 1 ≤ crd (itB C L b k) L.toNat := by
  induction k with
  | zero => exact Or.inr h1
  | succ k ih =>
    rcases ih with ih | ih
    · exact Or.inl (stB_cg ih)
    · by_cases e : iI (itB C L b (k + 1)) = iI (itB C L b k)
      · exact Or.inl (stB_cg e)
      · have := stB_grow hL0 hL hC (itB_low hL0 hL hC h k) e
        refine Or.inr ?_
        show k + 1 + 1 ≤ crd (stB C L (itB C L b k)) L.toNat
        omega
/-- behind L - 1 turns nothing more comes -/
theorem itB_fix (hL0 : 1 ≤ L) (hL : L ≤ 32) (hC : ∀ l w, 0 ≤ l → l < L → 0 ≤ w → w < 4 → 0 ≤ C l w ∧ C l w < L) {b : Int} (h : low L b) (h1 : 1 ≤ crd b L.toNat) : iI (itB C L b L.toNat) = iI (itB C L b (L - 1).toNat) := by
  have e : L.toNat = (L - 1).toNat + 1 := by omega
  rcases itB_or (by omega) hL hC h h1 (L - 1).toNat with q | q
  · rw [e]; exact q
  · have all := crd_all (b := itB C L b (L - 1).toNat) L.toNat (by omega)
    rw [e]
    refine bq_ext (fun i hi => ?_)
    by_cases hl : L ≤ (i : Int)
    · rw [itB_low (by omega) hL hC h _ i hi hl, itB_low (by omega) hL hC h _ i hi hl]
    · rw [all i (by omega)]
      exact stB_up (all i (by omega))
theorem crd_shI {l : Int} (h0 : 0 ≤ l) (h1 : l < L) (hL : L ≤ 32) : 1 ≤ crd (shI l) L.toNat := by
  have := crd_lt (a := 0) (b := shI l) L.toNat l.toNat (by omega) (fun i _ e => by rw [bq_0] at e; exact absurd e (by decide)) (by rw [bq_0]; decide) (by rw [bq_shI h0 (by omega) (by omega)]; exact decide_eq_true rfl)
  omega
theorem low_shI {l : Int} (h0 : 0 ≤ l) (h1 : l < L) (hL : L ≤ 32) : low L (shI l) := fun i hi hl => by
  rw [bq_shI h0 (by omega) hi]
  exact decide_eq_false (by omega)
theorem shI_ne {l : Int} (h0 : 0 ≤ l) (h1 : l < 32) : ¬ shI l = 0 := fun e => by
  have := bq_shI h0 h1 (i := l.toNat) (by omega)
  rw [e, bq_0, decide_eq_true rfl] at this
  exact absurd this (by decide)
end FIX
theorem stB_cong {C C' : Int → Int → Int} {L b : Int} (hL : 0 ≤ L) (h : ∀ l w, 0 ≤ l → l < L → 0 ≤ w → w < 4 → C l w = C' l w) : stB C L b = stB C' L b := by unfold stB; rw [accB_cong h _ (by omega)]
theorem itB_cong {C C' : Int → Int → Int} {L b : Int} (hL : 0 ≤ L) (h : ∀ l w, 0 ≤ l → l < L → 0 ≤ w → w < 4 → C l w = C' l w) (k : Nat) : itB C L b k = itB C' L b k := by
  induction k with
  | zero => rfl
  | succ k ih =>
    show stB C L (itB C L b k) = stB C' L (itB C' L b k)
    rw [ih, stB_cong hL h]