/-! the reader: all items -/
def rdF (ch : Int → Int) (n : Int) : Nat → Int → AS → Int × AS
  | 0, _, A => (-4, A)
  | f + 1, p, A => if n ≤ p then (-4, A) else match item ch p A with
    | none => (p, A)
    | some q => rdF ch n f q.1 q.2
theorem rdF_end {ch : Int → Int} {n : Int} {f : Nat} {p : Int} {A : AS} (h : n ≤ p) : rdF ch n f p A = (-4, A) := by
  cases f with
  | zero => rfl
  | succ f => show (if n ≤ p then _ else _) = _; rw [if_pos h]
theorem rdF_none {ch : Int → Int} {n : Int} {f : Nat} {p : Int} {A : AS} (h : ¬ n ≤ p) (e : item ch p A = none) : rdF ch n (f + 1) p A = (p, A) := by
  show (if n ≤ p then _ else _) = _
  rw [if_neg h, e]
theorem rdF_some {ch : Int → Int} {n : Int} {f : Nat} {p p' : Int} {A A' : AS} (h : ¬ n ≤ p) (e : item ch p A = some (p', A')) : rdF ch n (f + 1) p A = rdF ch n f p' A' := by
  show (if n ≤ p then _ else _) = _
  rw [if_neg h, e]
theorem rdF_ok {ch : Int → Int} {n : Int} : ∀ (f : Nat) (p : Int) (A : AS), AOk A → 0 ≤ p → AOk (rdF ch n f p A).2 ∧ ((rdF ch n f p A).1 = -4 ∨ (0 ≤ (rdF ch n f p A).1 ∧ (rdF ch n f p A).1 < n)) := by
  intro f
  induction f with
  | zero => intro p A ok _; exact ⟨ok, Or.inl rfl⟩
  | succ f ih =>
    intro p A ok p0
    by_cases h : n ≤ p
    · rw [rdF_end h]; exact ⟨ok, Or.inl rfl⟩
    · cases e : item ch p A with
      | none => rw [rdF_none h e]; exact ⟨ok, Or.inr ⟨p0, Int.not_le.mp h⟩⟩
      | some q =>
        obtain ⟨p', A'⟩ := q
        rw [rdF_some h e]
        have := item_ok e ok
        exact ih _ _ this.1 (by omega)
def A0 : AS := (0, fun _ => 0, 0, fun _ => 0, 0, fun _ _ => 0)
theorem A0_ok : AOk A0 := ⟨by decide, by decide, by decide, by decide, by decide, by decide, fun j _ j1 => absurd (show j < 4 * 0 from j1) (by omega), fun j _ j1 => absurd (show j < 0 from j1) (by omega), fun k _ k1 => absurd (show k < 0 from k1) (by omega)⟩
def clrS (s : St) : St := sF (sF (sF (sF (sF (sF s 57 4 0) 58 1 0) 60 1 0) 67 1 0) 66 2 0) 54 4 0
theorem clrS_fr (s : St) : FrR s (clrS s) := ⟨fun _ _ _ => rfl, fun a k e => by
  unfold clrS
  rw [vF_sF, if_neg (by omega), vF_sF, if_neg (by omega), vF_sF, if_neg (by omega), vF_sF, if_neg (by omega), vF_sF, if_neg (by omega), vF_sF, if_neg (by omega)]⟩
theorem clrS_rc (s : St) : RC (clrS s) A0 := ⟨⟨rfl, rfl, fun j _ j1 => absurd (show j < 4 * 0 from j1) (by omega)⟩, ⟨rfl, fun j _ j1 => absurd (show j < 0 from j1) (by omega)⟩, rfl, fun k _ _ k1 => absurd (show k < 0 from k1) (by omega), rfl⟩
set_option maxHeartbeats 4000000 in
set_option maxRecDepth 4000 in
theorem c_firstFault {X : vX} {s : St} {ch : Int → Int} {n : Int} (t : RText s ch) (hn : vF s 1 1 = n) : OkI X 4 47 [.ref 54] s (fun z u => z = (rdF ch n 200 0 A0).1 ∧ FrR s u ∧ ((rdF ch n 200 0 A0).1 = -4 → RC u (rdF ch n 200 0 A0).2)) := by
  refine Ok.of (r := vm_m47) (ls := [some (.ref 54), none, none]) rfl (Nat.le_of_ble_eq_true rfl) rfl (fun d hd => ?_)
  have n0 := t.1
  have n1 := t.2.1
  have e0 := clrS_fr s
  refine Gs_aload_n p47_0 rfl rfl ?_
  refine Gs_getR p47_1 (by first | rfl | assumption | exact (show isTale _ from by assumption).1 | exact (show isCamp _ _ from by assumption).1 | exact (show isRow _ _ from by assumption).1) (by rfl) ?_
  refine Gs_callV0W p47_4 (by rfl) (by rfl) (by rfl) (Nat.le_of_ble_eq_true rfl) (by decide) (c_tclear) (by omega) ?_
  refine Gs_aload_n p47_7 rfl rfl ?_
  refine Gs_getR p47_8 (by first | rfl | assumption | exact (show isTale _ from by assumption).1 | exact (show isCamp _ _ from by assumption).1 | exact (show isRow _ _ from by assumption).1) (by rfl) ?_
  refine Gs_callV0W p47_11 (by rfl) (by rfl) (by rfl) (Nat.le_of_ble_eq_true rfl) (by decide) (c_cclear) (by omega) ?_
  refine Gs_aload_n p47_14 rfl rfl ?_
  refine Gs_iconst p47_15 ?_
  refine Gs_putI p47_16 (by first | rfl | assumption | exact (show isTale _ from by assumption).1 | exact (show isCamp _ _ from by assumption).1 | exact (show isRow _ _ from by assumption).1) (by rfl) (by rfl) (by rfl) ?_
  refine Gs_iconst p47_19 ?_
  refine Gs_ist1 p47_20 (by first | rfl | assumption) ?_
  refine dn (n := (200 : Int)) (P := fun i => ∀ (y : St) (b2 : Option Value) (p : Int) (A : AS), FrR s y → RC y A → AOk A → vF y 54 4 = p → 0 ≤ p → p ≤ 2000 → rdF ch n (200 - i).toNat p A = rdF ch n 200 0 A0 → Gs X d 47 21 [some (.ref 54), some (.int (iI i)), b2] [] (y) (fun vv yy => ∃ zz : Int, vv = some (.int (iI zz)) ∧ (fun z u => z = (rdF ch n 200 0 A0).1 ∧ FrR s u ∧ ((rdF ch n 200 0 A0).1 = -4 → RC u (rdF ch n 200 0 A0).2)) zz yy)) (by omega) (fun i hi hin ih => ?_) ?_ _ none 0 A0 e0 (clrS_rc s) A0_ok rfl (by omega) (by omega) rfl
  · show ∀ (y : St) (b2 : Option Value) (p : Int) (A : AS), FrR s y → RC y A → AOk A → vF y 54 4 = p → 0 ≤ p → p ≤ 2000 → rdF ch n (200 - i).toNat p A = rdF ch n 200 0 A0 → Gs X d 47 21 [some (.ref 54), some (.int (iI i)), b2] [] (y) _
    intro y b2 p A o r ok hp p0 p1 e
    have t2 : RText y ch := o.txt t
    have n2 : vF y 1 1 = n := (o.2 _ _ (by decide)).trans hn
    rw [show (200 - i).toNat = (200 - (i + 1)).toNat + 1 by omega] at e
    refine Gs_iload_n p47_21 rfl rfl ?_
    refine Gs_sipush p47_22 (by decide) ?_
    refine Gs_icmp_ge (tgt := 62) p47_25 (by rfl) (by first | assumption | exact ⟨by omega, by omega⟩ | (split <;> exact ⟨by omega, by omega⟩)) (by first | assumption | exact ⟨by omega, by omega⟩ | (split <;> exact ⟨by omega, by omega⟩)) (fun hc25 => absurd ‹_› (by first | omega | assumption)) (fun hc25 => ?_)
    refine Gs_aload_n p47_28 rfl rfl ?_
    refine Gs_getI p47_29 (by first | rfl | assumption | exact (show isTale _ from by assumption).1 | exact (show isCamp _ _ from by assumption).1 | exact (show isRow _ _ from by assumption).1) (by rfl) ?_
    refine Gs_aload_n p47_32 rfl rfl ?_
    refine Gs_getR p47_33 (by first | rfl | assumption | exact (show isTale _ from by assumption).1 | exact (show isCamp _ _ from by assumption).1 | exact (show isRow _ _ from by assumption).1) (by rfl) ?_
    refine Gs_callV0I p47_36 (by rfl) (by rfl) (by rfl) (Nat.le_of_ble_eq_true rfl) (by decide) (c_size row1) (by omega) ?_
    refine Gs_icmp_ge (tgt := 62) p47_39 (by rfl) (by first | assumption | exact ⟨by omega, by omega⟩ | (split <;> exact ⟨by omega, by omega⟩)) (by first | assumption | exact ⟨by omega, by omega⟩ | (split <;> exact ⟨by omega, by omega⟩)) (fun h39 => ?_) (fun h39 => ?_)
    · refine Gs_bipush p47_62 (by decide) ?_
      refine Gs_iret p47_64 rfl ⟨_, rfl, ?_⟩
      rw [rdF_end (by omega)] at e
      rw [← e]
      exact ⟨rfl, o, fun _ => r⟩
    · refine Gs_aload_n p47_42 rfl rfl ?_
      refine Gs_getI p47_43 (by first | rfl | assumption | exact (show isTale _ from by assumption).1 | exact (show isCamp _ _ from by assumption).1 | exact (show isRow _ _ from by assumption).1) (by rfl) ?_
      refine Gs_ist2 p47_46 (by first | rfl | assumption) ?_
      refine Gs_aload_n p47_47 rfl rfl ?_
      refine Gs_callV0i p47_48 (by rfl) (by rfl) (by rfl) (Nat.le_of_ble_eq_true rfl) (by decide) (c_readItem t2 hp p0 (by omega) r ok) (by omega) (fun z48 s48 h48 => ?_)
      rw [h48.1, ← ite_not]
      refine Gs_ifb_ne (tgt := 56) p47_51 (by rfl) (fun h51 => ?_) (fun h51 => ?_)
      · refine Gs_iinc1 (b51 := none) p47_56 (by first | rfl | assumption) ?_
        refine Gs_goto (tgt := 21) p47_59 (by rfl) ?_
        cases hs : item ch p A with
        | none => exact absurd hs h51
        | some q =>
          obtain ⟨p', A'⟩ := q
          have k := item_ok hs ok
          have g := h48.2.2 p' A' hs
          rw [rdF_some (by omega) hs] at e
          exact ih _ _ p' A' (o.trans h48.2.1) g.2 k.1 g.1 (by omega) (by omega) e
      · refine Gs_iload_n p47_54 rfl rfl ?_
        refine Gs_iret p47_55 rfl ⟨_, rfl, ?_⟩
        have hno : item ch p A = none := Decidable.not_not.mp h51
        rw [rdF_none (by omega) hno] at e
        rw [← e]
        exact ⟨hp, o.trans h48.2.1, fun q => by have : p = -4 := q; omega⟩
  · show ∀ (y : St) (b2 : Option Value) (p : Int) (A : AS), FrR s y → RC y A → AOk A → vF y 54 4 = p → 0 ≤ p → p ≤ 2000 → rdF ch n (200 - ((200 : Int))).toNat p A = rdF ch n 200 0 A0 → Gs X d 47 21 [some (.ref 54), some (.int (iI ((200 : Int)))), b2] [] (y) _
    intro y b2 p A o r ok hp p0 p1 e
    refine Gs_iload_n p47_21 rfl rfl ?_
    refine Gs_sipush p47_22 (by decide) ?_
    refine Gs_icmp_ge (tgt := 62) p47_25 (by rfl) (by first | assumption | exact ⟨by omega, by omega⟩ | (split <;> exact ⟨by omega, by omega⟩)) (by first | assumption | exact ⟨by omega, by omega⟩ | (split <;> exact ⟨by omega, by omega⟩)) (fun hc25 => ?_) (fun hc25 => absurd ‹_› (by first | omega | assumption))
    refine Gs_bipush p47_62 (by decide) ?_
    refine Gs_iret p47_64 rfl ⟨_, rfl, ?_⟩
    rw [show (200 - (200 : Int)).toNat = 0 from rfl] at e
    rw [← e]
    exact ⟨rfl, o, fun _ => r⟩

set_option maxHeartbeats 1000000 in
set_option maxRecDepth 4000 in
theorem c_fault {X : vX} {s : St} {ch : Int → Int} {n : Int} (t : RText s ch) (hn : vF s 1 1 = n) : OkI X 5 95 [.ref 0] s (fun z u => z = (rdF ch n 200 0 A0).1 ∧ FrR s u ∧ ((rdF ch n 200 0 A0).1 = -4 → RC u (rdF ch n 200 0 A0).2)) := by
  refine Ok.of (r := vm_m95) (ls := [some (.ref 0)]) rfl (Nat.le_of_ble_eq_true rfl) rfl (fun d hd => ?_)
  refine Gs_aload_n p95_0 rfl rfl ?_
  refine Gs_getR p95_1 (by first | rfl | assumption | exact (show isTale _ from by assumption).1 | exact (show isCamp _ _ from by assumption).1 | exact (show isRow _ _ from by assumption).1) (by rfl) ?_
  refine Gs_callV0i p95_4 (by rfl) (by rfl) (by rfl) (Nat.le_of_ble_eq_true rfl) (by decide) (c_firstFault t hn) (by omega) (fun z4 s4 h4 => ?_)
  refine Gs_iret p95_7 rfl ⟨_, rfl, ?_⟩
  exact h4
