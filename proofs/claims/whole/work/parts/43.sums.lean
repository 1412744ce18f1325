/-! sums; what count asks -/
theorem dn {P : Int → Prop} {n : Int} (hn : 0 ≤ n) (step : ∀ i, 0 ≤ i → i < n → P (i + 1) → P i) (last : P n) : P 0 := by
  have H : ∀ k : Nat, (k : Int) ≤ n → P (n - k) := by
    intro k
    induction k with
    | zero => intro _; rw [show n - ((0 : Nat) : Int) = n by omega]; exact last
    | succ k ih =>
      intro hk
      have h1 := ih (by omega)
      refine step (n - ((k + 1 : Nat) : Int)) (by omega) (by omega) ?_
      rw [show n - ((k + 1 : Nat) : Int) + 1 = n - (k : Int) by omega]
      exact h1
  have := H n.toNat (by omega)
  rw [show n - (n.toNat : Int) = 0 by omega] at this
  exact this
def smN (f : Int → Int) : Nat → Int
  | 0 => 0
  | n + 1 => smN f n + f n
def sm (f : Int → Int) (i : Int) : Int := smN f i.toNat
theorem sm_s (f : Int → Int) {i : Int} (h : 0 ≤ i) : sm f (i + 1) = sm f i + f i := by
  unfold sm
  rw [show (i + 1).toNat = i.toNat + 1 by omega]
  show smN f i.toNat + f i.toNat = _
  rw [show ((i.toNat : Nat) : Int) = i by omega]
theorem smN_cong {f g : Int → Int} (n : Nat) (h : ∀ k, 0 ≤ k → k < (n : Int) → f k = g k) : smN f n = smN g n := by
  induction n with
  | zero => rfl
  | succ n ih =>
    show smN f n + f n = smN g n + g n
    rw [ih (fun k h0 h1 => h k h0 (by omega)), h n (by omega) (by omega)]
theorem sm_cong {f g : Int → Int} {n : Int} (h : ∀ k, 0 ≤ k → k < n → f k = g k) : sm f n = sm g n := by
  by_cases hn : 0 ≤ n
  · exact smN_cong _ (fun k h0 h1 => h k h0 (by omega))
  · unfold sm; rw [show n.toNat = 0 by omega]; rfl
theorem smN_b {f : Int → Int} {a b : Int} (n : Nat) (h : ∀ k, 0 ≤ k → k < (n : Int) → a ≤ f k ∧ f k ≤ b) : a * n ≤ smN f n ∧ smN f n ≤ b * n := by
  induction n with
  | zero => show a * 0 ≤ 0 ∧ 0 ≤ b * 0; omega
  | succ n ih =>
    have h1 := ih (fun k h0 h1 => h k h0 (by omega))
    have h2 := h n (by omega) (by omega)
    have e1 : a * ((n + 1 : Nat) : Int) = a * n + a := by rw [Int.natCast_add, Int.mul_add]; simp
    have e2 : b * ((n + 1 : Nat) : Int) = b * n + b := by rw [Int.natCast_add, Int.mul_add]; simp
    rw [e1, e2]
    show _ ≤ smN f n + f n ∧ smN f n + f n ≤ _
    omega
theorem sm_b {f : Int → Int} {a b : Int} {n : Int} (hn : 0 ≤ n) (h : ∀ k, 0 ≤ k → k < n → a ≤ f k ∧ f k ≤ b) : a * n ≤ sm f n ∧ sm f n ≤ b * n := by
  have := smN_b (f := f) (a := a) (b := b) n.toNat (fun k h0 h1 => h k h0 (by omega))
  rw [show ((n.toNat : Nat) : Int) = n by omega] at this
  exact this
theorem smN_0 {f : Int → Int} (n m : Nat) (h : ∀ k, (n : Int) ≤ k → k < (n : Int) + m → f k = 0) : smN f (n + m) = smN f n := by
  induction m with
  | zero => rfl
  | succ m ih =>
    show smN f (n + m) + f ((n + m : Nat) : Int) = _
    rw [ih (fun k h0 h1 => h k h0 (by omega)), h _ (by omega) (by omega)]
    omega
theorem sm_0 {f : Int → Int} {n m : Int} (hn : 0 ≤ n) (hm : n ≤ m) (h : ∀ k, n ≤ k → k < m → f k = 0) : sm f m = sm f n := by
  unfold sm
  rw [show m.toNat = n.toNat + (m - n).toNat by omega]
  exact smN_0 _ _ (fun k h0 h1 => h k (by omega) (by omega))
theorem sm_zero (f : Int → Int) : sm f 0 = 0 := rfl
def inS (s : St) (c : Nat) (k : Int) : Int := if 1 ≤ cg s c k 0 then 1 else 0
theorem inS_b (s : St) (c : Nat) (k : Int) : 0 ≤ inS s c k ∧ inS s c k ≤ 1 := by unfold inS; split <;> omega
def lgS (s : St) (c : Nat) (k : Int) : Int := sm (fun w => cg s c k (2 + w)) 4
def tdS (s : St) (c : Nat) (k : Int) : Int := cg s c k 7
set_option maxHeartbeats 1000000 in
set_option maxRecDepth 4000 in
theorem c_firesIn {X : vX} {s : St} {c t : Nat} {n : Int} (hc : isCamp c t) (hk : CampOk s c n) : OkI X 3 22 [.ref c] s (Is1 (sm (inS s c) n) s) := by
  refine Ok.of (r := vm_m22) (ls := [some (.ref c), none, none]) rfl (Nat.le_of_ble_eq_true rfl) rfl (fun d hd => ?_)
  obtain ⟨hy, hr⟩ := id hc
  obtain ⟨k1, k2, k3, k4, k5, k6⟩ := id hk
  refine Gs_iconst p22_0 ?_
  refine Gs_ist1 p22_1 (by first | rfl | assumption) ?_
  refine Gs_iconst p22_2 ?_
  refine Gs_ist2 p22_3 (by first | rfl | assumption) ?_
  refine dn (n := n) (P := fun i => Gs X d 22 4 [some (.ref c), some (.int (iI (sm (inS s c) i))), some (.int (iI i))] [] (s) _) (by omega) (fun i hi hin ih => ?_) ?_
  · show Gs X d 22 4 [some (.ref c), some (.int (iI (sm (inS s c) i))), some (.int (iI i))] [] (s) _
    refine Gs_iload_n p22_4 rfl rfl ?_
    refine Gs_aload_n p22_5 rfl rfl ?_
    refine Gs_callV0I p22_6 (by rfl) (by rfl) (by first | rfl | assumption | exact (show isTale _ from by assumption).1 | exact (show isCamp _ _ from by assumption).1 | exact (show isRow _ _ from by assumption).1) (Nat.le_of_ble_eq_true rfl) (by decide) (c_companies hc hk) (by omega) ?_
    refine Gs_icmp_ge (tgt := 29) p22_9 (by rfl) (by first | assumption | exact ⟨by omega, by omega⟩ | (split <;> exact ⟨by omega, by omega⟩)) (by first | assumption | exact ⟨by omega, by omega⟩ | (split <;> exact ⟨by omega, by omega⟩)) (fun hc9 => absurd ‹_› (by first | omega | assumption)) (fun hc9 => ?_)
    refine Gs_aload_n p22_12 rfl rfl ?_
    refine Gs_iload_n p22_13 rfl rfl ?_
    refine Gs_callV1I p22_14 (by rfl) (by rfl) (by first | rfl | assumption | exact (show isTale _ from by assumption).1 | exact (show isCamp _ _ from by assumption).1 | exact (show isRow _ _ from by assumption).1) (Nat.le_of_ble_eq_true rfl) (by decide) (c_isIn hc hk hi hin) (by omega) ?_
    refine Gs_ifb_eq (tgt := 23) p22_17 (by rfl) (fun h17 => ?_) (fun h17 => ?_)
    · refine Gs_iinc2 (b52 := none) p22_23 (by first | rfl | assumption) ?_
      refine Gs_goto (tgt := 4) p22_26 (by rfl) ?_
      rw [sm_s _ hi, show inS s c i = _ from rfl] at ih
      first | (rw [inS, if_pos h17] at ih; exact ih) | (rw [inS, if_neg h17] at ih; exact ih) | (rw [inS, if_neg h17, Int.add_zero] at ih; exact ih)
    · refine Gs_iinc1 (b51 := none) p22_20 (by first | rfl | assumption) ?_
      refine Gs_iinc2 (b52 := none) p22_23 (by first | rfl | assumption) ?_
      refine Gs_goto (tgt := 4) p22_26 (by rfl) ?_
      rw [sm_s _ hi, show inS s c i = _ from rfl] at ih
      first | (rw [inS, if_pos h17] at ih; exact ih) | (rw [inS, if_neg h17] at ih; exact ih) | (rw [inS, if_neg h17, Int.add_zero] at ih; exact ih)
  · show Gs X d 22 4 [some (.ref c), some (.int (iI (sm (inS s c) (n)))), some (.int (iI (n)))] [] (s) _
    refine Gs_iload_n p22_4 rfl rfl ?_
    refine Gs_aload_n p22_5 rfl rfl ?_
    refine Gs_callV0I p22_6 (by rfl) (by rfl) (by first | rfl | assumption | exact (show isTale _ from by assumption).1 | exact (show isCamp _ _ from by assumption).1 | exact (show isRow _ _ from by assumption).1) (Nat.le_of_ble_eq_true rfl) (by decide) (c_companies hc hk) (by omega) ?_
    refine Gs_icmp_ge (tgt := 29) p22_9 (by rfl) (by first | assumption | exact ⟨by omega, by omega⟩ | (split <;> exact ⟨by omega, by omega⟩)) (by first | assumption | exact ⟨by omega, by omega⟩ | (split <;> exact ⟨by omega, by omega⟩)) (fun hc9 => ?_) (fun hc9 => absurd ‹_› (by first | omega | assumption))
    refine Gs_iload_n p22_29 rfl rfl ?_
    refine Gs_iret p22_30 rfl ⟨_, rfl, ?_⟩
    exact ⟨rfl, rfl⟩

set_option maxHeartbeats 1000000 in
set_option maxRecDepth 4000 in
theorem c_linesTold {X : vX} {s : St} {c t : Nat} {n : Int} (hc : isCamp c t) (hk : CampOk s c n) : OkI X 2 24 [.ref c] s (Is1 (sm (tdS s c) n) s) := by
  refine Ok.of (r := vm_m24) (ls := [some (.ref c), none, none]) rfl (Nat.le_of_ble_eq_true rfl) rfl (fun d hd => ?_)
  obtain ⟨hy, hr⟩ := id hc
  obtain ⟨k1, k2, k3, k4, k5, k6⟩ := id hk
  refine Gs_iconst p24_0 ?_
  refine Gs_ist1 p24_1 (by first | rfl | assumption) ?_
  refine Gs_iconst p24_2 ?_
  refine Gs_ist2 p24_3 (by first | rfl | assumption) ?_
  refine dn (n := n) (P := fun i => Gs X d 24 4 [some (.ref c), some (.int (iI (sm (tdS s c) i))), some (.int (iI i))] [] (s) _) (by omega) (fun i hi hin ih => ?_) ?_
  · show Gs X d 24 4 [some (.ref c), some (.int (iI (sm (tdS s c) i))), some (.int (iI i))] [] (s) _
    refine Gs_iload_n p24_4 rfl rfl ?_
    refine Gs_aload_n p24_5 rfl rfl ?_
    refine Gs_callV0I p24_6 (by rfl) (by rfl) (by first | rfl | assumption | exact (show isTale _ from by assumption).1 | exact (show isCamp _ _ from by assumption).1 | exact (show isRow _ _ from by assumption).1) (Nat.le_of_ble_eq_true rfl) (by decide) (c_companies hc hk) (by omega) ?_
    refine Gs_icmp_ge (tgt := 28) p24_9 (by rfl) (by first | assumption | exact ⟨by omega, by omega⟩ | (split <;> exact ⟨by omega, by omega⟩)) (by first | assumption | exact ⟨by omega, by omega⟩ | (split <;> exact ⟨by omega, by omega⟩)) (fun hc9 => absurd ‹_› (by first | omega | assumption)) (fun hc9 => ?_)
    refine Gs_iload_n p24_12 rfl rfl ?_
    refine Gs_aload_n p24_13 rfl rfl ?_
    refine Gs_iload_n p24_14 rfl rfl ?_
    refine Gs_bipush p24_15 (by decide) ?_
    refine Gs_callV2I p24_17 (by rfl) (by rfl) (by first | rfl | assumption | exact (show isTale _ from by assumption).1 | exact (show isCamp _ _ from by assumption).1 | exact (show isRow _ _ from by assumption).1) (Nat.le_of_ble_eq_true rfl) (by decide) (c_Cget hc hk hi hin (by omega) (by omega)) (by omega) ?_
    refine Gs_iadd p24_20 ?_
    refine Gs_ist1 p24_21 (by first | rfl | assumption) ?_
    refine Gs_iinc2 (b52 := none) p24_22 (by first | rfl | assumption) ?_
    refine Gs_goto (tgt := 4) p24_25 (by rfl) ?_
    rw [sm_s _ hi] at ih
    exact ih
  · show Gs X d 24 4 [some (.ref c), some (.int (iI (sm (tdS s c) (n)))), some (.int (iI (n)))] [] (s) _
    refine Gs_iload_n p24_4 rfl rfl ?_
    refine Gs_aload_n p24_5 rfl rfl ?_
    refine Gs_callV0I p24_6 (by rfl) (by rfl) (by first | rfl | assumption | exact (show isTale _ from by assumption).1 | exact (show isCamp _ _ from by assumption).1 | exact (show isRow _ _ from by assumption).1) (Nat.le_of_ble_eq_true rfl) (by decide) (c_companies hc hk) (by omega) ?_
    refine Gs_icmp_ge (tgt := 28) p24_9 (by rfl) (by first | assumption | exact ⟨by omega, by omega⟩ | (split <;> exact ⟨by omega, by omega⟩)) (by first | assumption | exact ⟨by omega, by omega⟩ | (split <;> exact ⟨by omega, by omega⟩)) (fun hc9 => ?_) (fun hc9 => absurd ‹_› (by first | omega | assumption))
    refine Gs_iload_n p24_28 rfl rfl ?_
    refine Gs_iret p24_29 rfl ⟨_, rfl, ?_⟩
    exact ⟨rfl, rfl⟩

set_option maxHeartbeats 1000000 in
set_option maxRecDepth 4000 in
theorem c_allLogs {X : vX} {s : St} {c t : Nat} {n : Int} (hc : isCamp c t) (hk : CampOk s c n) : OkI X 2 23 [.ref c] s (Is1 (sm (lgS s c) n) s) := by
  refine Ok.of (r := vm_m23) (ls := [some (.ref c), none, none, none]) rfl (Nat.le_of_ble_eq_true rfl) rfl (fun d hd => ?_)
  obtain ⟨hy, hr⟩ := id hc
  obtain ⟨k1, k2, k3, k4, k5, k6⟩ := id hk
  refine Gs_iconst p23_0 ?_
  refine Gs_ist1 p23_1 (by first | rfl | assumption) ?_
  refine Gs_iconst p23_2 ?_
  refine Gs_ist2 p23_3 (by first | rfl | assumption) ?_
  refine dn (n := n) (P := fun i => ∀ B, Gs X d 23 4 [some (.ref c), some (.int (iI (sm (lgS s c) i))), some (.int (iI i)), B] [] (s) (fun v t => ∃ z : Int, v = some (.int (iI z)) ∧ (Is1 (sm (lgS s c) n) s) z t)) (by omega) (fun i hi hin ih => ?_) ?_ none
  · show ∀ B, Gs X d 23 4 [some (.ref c), some (.int (iI (sm (lgS s c) i))), some (.int (iI i)), B] [] (s) _
    intro B
    refine Gs_iload_n p23_4 rfl rfl ?_
    refine Gs_aload_n p23_5 rfl rfl ?_
    refine Gs_callV0I p23_6 (by rfl) (by rfl) (by first | rfl | assumption | exact (show isTale _ from by assumption).1 | exact (show isCamp _ _ from by assumption).1 | exact (show isRow _ _ from by assumption).1) (Nat.le_of_ble_eq_true rfl) (by decide) (c_companies hc hk) (by omega) ?_
    refine Gs_icmp_ge (tgt := 42) p23_9 (by rfl) (by first | assumption | exact ⟨by omega, by omega⟩ | (split <;> exact ⟨by omega, by omega⟩)) (by first | assumption | exact ⟨by omega, by omega⟩ | (split <;> exact ⟨by omega, by omega⟩)) (fun hc9 => absurd ‹_› (by first | omega | assumption)) (fun hc9 => ?_)
    refine Gs_iconst p23_12 ?_
    refine Gs_ist3 p23_13 (by first | rfl | assumption) ?_
    rw [show sm (lgS s c) i = sm (lgS s c) i + sm (fun w => cg s c i (2 + w)) 0 from (Int.add_zero _).symm]
    refine dn (n := 4) (P := fun j => Gs X d 23 14 [some (.ref c), some (.int (iI (sm (lgS s c) i + sm (fun w => cg s c i (2 + w)) j))), some (.int (iI i)), some (.int (iI j))] [] (s) _) (by omega) (fun j hj hjn ih2 => ?_) ?_
    · show Gs X d 23 14 [some (.ref c), some (.int (iI (sm (lgS s c) i + sm (fun w => cg s c i (2 + w)) j))), some (.int (iI i)), some (.int (iI j))] [] (s) _
      refine Gs_iload_n p23_14 rfl rfl ?_
      refine Gs_iconst p23_15 ?_
      refine Gs_icmp_ge (tgt := 36) p23_16 (by rfl) (by first | assumption | exact ⟨by omega, by omega⟩ | (split <;> exact ⟨by omega, by omega⟩)) (by first | assumption | exact ⟨by omega, by omega⟩ | (split <;> exact ⟨by omega, by omega⟩)) (fun hc16 => absurd ‹_› (by first | omega | assumption)) (fun hc16 => ?_)
      refine Gs_iload_n p23_19 rfl rfl ?_
      refine Gs_aload_n p23_20 rfl rfl ?_
      refine Gs_iload_n p23_21 rfl rfl ?_
      refine Gs_iconst p23_22 ?_
      refine Gs_iload_n p23_23 rfl rfl ?_
      refine Gs_iadd p23_24 ?_
      refine Gs_callV2I p23_25 (by rfl) (by rfl) (by first | rfl | assumption | exact (show isTale _ from by assumption).1 | exact (show isCamp _ _ from by assumption).1 | exact (show isRow _ _ from by assumption).1) (Nat.le_of_ble_eq_true rfl) (by decide) (c_Cget hc hk hi hin (by omega) (by omega)) (by omega) ?_
      refine Gs_iadd p23_28 ?_
      refine Gs_ist1 p23_29 (by first | rfl | assumption) ?_
      refine Gs_iinc3 (b53 := none) p23_30 (by first | rfl | assumption) ?_
      refine Gs_goto (tgt := 14) p23_33 (by rfl) ?_
      rw [sm_s _ hj, ← Int.add_assoc] at ih2
      exact ih2
    · show Gs X d 23 14 [some (.ref c), some (.int (iI (sm (lgS s c) i + sm (fun w => cg s c i (2 + w)) (4)))), some (.int (iI i)), some (.int (iI (4)))] [] (s) _
      refine Gs_iload_n p23_14 rfl rfl ?_
      refine Gs_iconst p23_15 ?_
      refine Gs_icmp_ge (tgt := 36) p23_16 (by rfl) (by first | assumption | exact ⟨by omega, by omega⟩ | (split <;> exact ⟨by omega, by omega⟩)) (by first | assumption | exact ⟨by omega, by omega⟩ | (split <;> exact ⟨by omega, by omega⟩)) (fun hc16 => ?_) (fun hc16 => absurd ‹_› (by first | omega | assumption))
      refine Gs_iinc2 (b52 := none) p23_36 (by first | rfl | assumption) ?_
      refine Gs_goto (tgt := 4) p23_39 (by rfl) ?_
      rw [sm_s _ hi] at ih
      exact ih _
  · show ∀ B, Gs X d 23 4 [some (.ref c), some (.int (iI (sm (lgS s c) (n)))), some (.int (iI (n))), B] [] (s) _
    intro B
    refine Gs_iload_n p23_4 rfl rfl ?_
    refine Gs_aload_n p23_5 rfl rfl ?_
    refine Gs_callV0I p23_6 (by rfl) (by rfl) (by first | rfl | assumption | exact (show isTale _ from by assumption).1 | exact (show isCamp _ _ from by assumption).1 | exact (show isRow _ _ from by assumption).1) (Nat.le_of_ble_eq_true rfl) (by decide) (c_companies hc hk) (by omega) ?_
    refine Gs_icmp_ge (tgt := 42) p23_9 (by rfl) (by first | assumption | exact ⟨by omega, by omega⟩ | (split <;> exact ⟨by omega, by omega⟩)) (by first | assumption | exact ⟨by omega, by omega⟩ | (split <;> exact ⟨by omega, by omega⟩)) (fun hc9 => ?_) (fun hc9 => absurd ‹_› (by first | omega | assumption))
    refine Gs_iload_n p23_42 rfl rfl ?_
    refine Gs_iret p23_43 rfl ⟨_, rfl, ?_⟩
    exact ⟨rfl, rfl⟩
