/-! laying a text: the reference -/
set_option maxHeartbeats 1000000 in
set_option maxRecDepth 4000 in
theorem c_areTold {X : vX} {s : St} {A : AS} (m : RM s A) (ok : AOk A) : OkI X 0 146 [.ref 95] s (Is1 (if toldOk A (4 * A.L).toNat then 1 else 0) s) := by
  refine Ok.of (r := vm_m146) (ls := [some (.ref 95), none, none]) rfl (Nat.le_of_ble_eq_true rfl) rfl (fun d hd => ?_)
  obtain ⟨⟨m0, m1, m2⟩, m3, m4, m5⟩ := id m
  obtain ⟨a1, a2, a3, a4, a5, a6, a7, a8⟩ := id ok
  refine Gs_iconst p146_0 ?_
  refine Gs_ist1 p146_1 (by first | rfl | assumption) ?_
  refine Gs_iconst p146_2 ?_
  refine Gs_ist2 p146_3 (by first | rfl | assumption) ?_
  refine dn (n := (4 * A.L)) (P := fun i => ∀ f : Int, f = (if toldOk A i.toNat then 1 else 0) → Gs X d 146 4 [some (.ref 95), some (.int (iI f)), some (.int (iI i))] [] (s) (fun vv yy => ∃ zz : Int, vv = some (.int (iI zz)) ∧ (fun z u => z = (if toldOk A (4 * A.L).toNat then 1 else 0) ∧ u = s) zz yy)) (by omega) (fun i hi hin ih => ?_) ?_ 1 (if_pos (fun j q => absurd q (by omega))).symm
  · show ∀ f : Int, f = (if toldOk A i.toNat then 1 else 0) → Gs X d 146 4 [some (.ref 95), some (.int (iI f)), some (.int (iI i))] [] (s) _
    intro f hf
    have nb := a7 i hi hin
    have ei : ((i.toNat : Nat) : Int) = i := by omega
    refine Gs_iload_n p146_4 rfl rfl ?_
    refine Gs_iconst p146_5 ?_
    refine Gs_aload_n p146_6 rfl rfl ?_
    refine Gs_getR p146_7 (by first | rfl | assumption | exact (show isTale _ from by assumption).1 | exact (show isCamp _ _ from by assumption).1 | exact (show isRow _ _ from by assumption).1) (by rfl) ?_
    refine Gs_iconst p146_10 ?_
    refine Gs_iald p146_11 (by first | rfl | assumption | exact (show isTale _ from by assumption).1 | exact (show isCamp _ _ from by assumption).1 | exact (show isRow _ _ from by assumption).1) (by omega) (by omega) (by omega) ?_
    rw [m0]
    refine Gs_imul p146_12 ?_
    refine Gs_icmp_ge (tgt := 62) p146_13 (by rfl) (by first | assumption | exact ⟨by omega, by omega⟩ | (split <;> exact ⟨by omega, by omega⟩)) (by first | assumption | exact ⟨by omega, by omega⟩ | (split <;> exact ⟨by omega, by omega⟩)) (fun hc13 => absurd ‹_› (by first | omega | assumption)) (fun hc13 => ?_)
    refine Gs_iload_n p146_16 rfl rfl ?_
    rw [hf]
    refine Gs_ifb_eq (tgt := 54) p146_17 (by rfl) (fun h17 => ?_) (fun h17 => ?_)
    · refine Gs_iconst p146_54 ?_
      refine Gs_ist1 p146_55 (by first | rfl | assumption) ?_
      refine Gs_iinc2 (b52 := none) p146_56 (by first | rfl | assumption) ?_
      refine Gs_goto (tgt := 4) p146_59 (by rfl) ?_
      have yes : toldOk A i.toNat → A.nx i = 9 ∨ A.nx i < A.L → toldOk A (i + 1).toNat := fun q0 q j hj => by
        by_cases c : j = i.toNat
        · rw [c, ei]; exact q
        · exact q0 j (by omega)
      have no : ¬ (A.nx i = 9 ∨ A.nx i < A.L) → ¬ toldOk A (i + 1).toNat := fun q r => q (by
        have := r i.toNat (by omega)
        rw [ei] at this
        exact this)
      first
        | exact ih 1 (if_pos (yes h17 (by omega))).symm
        | exact ih 0 (if_neg (fun r => h17 (fun j hj => r j (by omega)))).symm
        | exact ih 0 (if_neg (no (by omega))).symm
    · refine Gs_aload_n p146_20 rfl rfl ?_
      refine Gs_getR p146_21 (by first | rfl | assumption | exact (show isTale _ from by assumption).1 | exact (show isCamp _ _ from by assumption).1 | exact (show isRow _ _ from by assumption).1) (by rfl) ?_
      refine Gs_iconst p146_24 ?_
      refine Gs_iload_n p146_25 rfl rfl ?_
      refine Gs_iadd p146_26 ?_
      refine Gs_iald p146_27 (by first | rfl | assumption | exact (show isTale _ from by assumption).1 | exact (show isCamp _ _ from by assumption).1 | exact (show isRow _ _ from by assumption).1) (by omega) (by omega) (by omega) ?_
      rw [m3 i hi hin]
      refine Gs_bipush p146_28 (by decide) ?_
      refine Gs_icmp_eq (tgt := 50) p146_30 (by rfl) (by first | assumption | exact ⟨by omega, by omega⟩ | (split <;> exact ⟨by omega, by omega⟩)) (by first | assumption | exact ⟨by omega, by omega⟩ | (split <;> exact ⟨by omega, by omega⟩)) (fun h30 => ?_) (fun h30 => ?_)
      · refine Gs_iconst p146_50 ?_
        refine Gs_goto (tgt := 55) p146_51 (by rfl) ?_
        refine Gs_ist1 p146_55 (by first | rfl | assumption) ?_
        refine Gs_iinc2 (b52 := none) p146_56 (by first | rfl | assumption) ?_
        refine Gs_goto (tgt := 4) p146_59 (by rfl) ?_
        have yes : toldOk A i.toNat → A.nx i = 9 ∨ A.nx i < A.L → toldOk A (i + 1).toNat := fun q0 q j hj => by
          by_cases c : j = i.toNat
          · rw [c, ei]; exact q
          · exact q0 j (by omega)
        have no : ¬ (A.nx i = 9 ∨ A.nx i < A.L) → ¬ toldOk A (i + 1).toNat := fun q r => q (by
          have := r i.toNat (by omega)
          rw [ei] at this
          exact this)
        first
          | exact ih 1 (if_pos (yes h17 (by omega))).symm
          | exact ih 0 (if_neg (fun r => h17 (fun j hj => r j (by omega)))).symm
          | exact ih 0 (if_neg (no (by omega))).symm
      · refine Gs_aload_n p146_33 rfl rfl ?_
        refine Gs_getR p146_34 (by first | rfl | assumption | exact (show isTale _ from by assumption).1 | exact (show isCamp _ _ from by assumption).1 | exact (show isRow _ _ from by assumption).1) (by rfl) ?_
        refine Gs_iconst p146_37 ?_
        refine Gs_iload_n p146_38 rfl rfl ?_
        refine Gs_iadd p146_39 ?_
        refine Gs_iald p146_40 (by first | rfl | assumption | exact (show isTale _ from by assumption).1 | exact (show isCamp _ _ from by assumption).1 | exact (show isRow _ _ from by assumption).1) (by omega) (by omega) (by omega) ?_
        rw [m3 i hi hin]
        refine Gs_aload_n p146_41 rfl rfl ?_
        refine Gs_getR p146_42 (by first | rfl | assumption | exact (show isTale _ from by assumption).1 | exact (show isCamp _ _ from by assumption).1 | exact (show isRow _ _ from by assumption).1) (by rfl) ?_
        refine Gs_iconst p146_45 ?_
        refine Gs_iald p146_46 (by first | rfl | assumption | exact (show isTale _ from by assumption).1 | exact (show isCamp _ _ from by assumption).1 | exact (show isRow _ _ from by assumption).1) (by omega) (by omega) (by omega) ?_
        rw [m0]
        refine Gs_icmp_ge (tgt := 54) p146_47 (by rfl) (by first | assumption | exact ⟨by omega, by omega⟩ | (split <;> exact ⟨by omega, by omega⟩)) (by first | assumption | exact ⟨by omega, by omega⟩ | (split <;> exact ⟨by omega, by omega⟩)) (fun h47 => ?_) (fun h47 => ?_)
        · refine Gs_iconst p146_54 ?_
          refine Gs_ist1 p146_55 (by first | rfl | assumption) ?_
          refine Gs_iinc2 (b52 := none) p146_56 (by first | rfl | assumption) ?_
          refine Gs_goto (tgt := 4) p146_59 (by rfl) ?_
          have yes : toldOk A i.toNat → A.nx i = 9 ∨ A.nx i < A.L → toldOk A (i + 1).toNat := fun q0 q j hj => by
            by_cases c : j = i.toNat
            · rw [c, ei]; exact q
            · exact q0 j (by omega)
          have no : ¬ (A.nx i = 9 ∨ A.nx i < A.L) → ¬ toldOk A (i + 1).toNat := fun q r => q (by
            have := r i.toNat (by omega)
            rw [ei] at this
            exact this)
          first
            | exact ih 1 (if_pos (yes h17 (by omega))).symm
            | exact ih 0 (if_neg (fun r => h17 (fun j hj => r j (by omega)))).symm
            | exact ih 0 (if_neg (no (by omega))).symm
        · refine Gs_iconst p146_50 ?_
          refine Gs_goto (tgt := 55) p146_51 (by rfl) ?_
          refine Gs_ist1 p146_55 (by first | rfl | assumption) ?_
          refine Gs_iinc2 (b52 := none) p146_56 (by first | rfl | assumption) ?_
          refine Gs_goto (tgt := 4) p146_59 (by rfl) ?_
          have yes : toldOk A i.toNat → A.nx i = 9 ∨ A.nx i < A.L → toldOk A (i + 1).toNat := fun q0 q j hj => by
            by_cases c : j = i.toNat
            · rw [c, ei]; exact q
            · exact q0 j (by omega)
          have no : ¬ (A.nx i = 9 ∨ A.nx i < A.L) → ¬ toldOk A (i + 1).toNat := fun q r => q (by
            have := r i.toNat (by omega)
            rw [ei] at this
            exact this)
          first
            | exact ih 1 (if_pos (yes h17 (by omega))).symm
            | exact ih 0 (if_neg (fun r => h17 (fun j hj => r j (by omega)))).symm
            | exact ih 0 (if_neg (no (by omega))).symm
  · show ∀ f : Int, f = (if toldOk A ((4 * A.L)).toNat then 1 else 0) → Gs X d 146 4 [some (.ref 95), some (.int (iI f)), some (.int (iI ((4 * A.L))))] [] (s) _
    intro f hf
    subst hf
    refine Gs_iload_n p146_4 rfl rfl ?_
    refine Gs_iconst p146_5 ?_
    refine Gs_aload_n p146_6 rfl rfl ?_
    refine Gs_getR p146_7 (by first | rfl | assumption | exact (show isTale _ from by assumption).1 | exact (show isCamp _ _ from by assumption).1 | exact (show isRow _ _ from by assumption).1) (by rfl) ?_
    refine Gs_iconst p146_10 ?_
    refine Gs_iald p146_11 (by first | rfl | assumption | exact (show isTale _ from by assumption).1 | exact (show isCamp _ _ from by assumption).1 | exact (show isRow _ _ from by assumption).1) (by omega) (by omega) (by omega) ?_
    rw [m0]
    refine Gs_imul p146_12 ?_
    refine Gs_icmp_ge (tgt := 62) p146_13 (by rfl) (by first | assumption | exact ⟨by omega, by omega⟩ | (split <;> exact ⟨by omega, by omega⟩)) (by first | assumption | exact ⟨by omega, by omega⟩ | (split <;> exact ⟨by omega, by omega⟩)) (fun hc13 => ?_) (fun hc13 => absurd ‹_› (by first | omega | assumption))
    refine Gs_iload_n p146_62 rfl rfl ?_
    refine Gs_zret p146_63 rfl (by first | exact Or.inl rfl | exact Or.inr rfl | (split <;> first | exact Or.inl rfl | exact Or.inr rfl)) ⟨_, rfl, ?_⟩
    exact ⟨rfl, rfl⟩

/-- a camp at its beginning, cell by cell -/
def bgV (s : St) (z : Int) : Int := if z < 4 then (if z < vA s 96 2 then vA s 96 (51 + z) else 0) else if z < 8 then (if z - 4 < vA s 96 2 then vA s 96 (47 + (z - 4)) else -4) else if z < 24 then (if (z - 8) / 4 < vA s 96 2 then vA s 96 (55 + (z - 8)) else 0) else -4
set_option maxHeartbeats 8000000 in
set_option maxRecDepth 4000 in
theorem c_begins {X : vX} {s : St} (n0 : 0 ≤ vA s 96 2) (n4 : vA s 96 2 ≤ 4) : OkV X 0 133 [.ref 95] s (fun u => (∀ a z, a ≠ 98 → vA u a z = vA s a z) ∧ (∀ a k, ¬ (a = 95 ∧ (k = 5 ∨ k = 7 ∨ k = 9)) → vF u a k = vF s a k) ∧ (vF u 95 5 = 0 ∧ vF u 95 7 = 0 ∧ vF u 95 9 = 0) ∧ ∀ z, 0 ≤ z → z < 33 → vA u 98 z = (if z < 28 then bgV s z else 0)) := by
  refine Ok.of (r := vm_m133) (ls := [some (.ref 95), none, none, none]) rfl (Nat.le_of_ble_eq_true rfl) rfl (fun d hd => ?_)
  refine Gs_iconst p133_0 ?_
  refine Gs_ist1 p133_1 (by first | rfl | assumption) ?_
  refine dn (n := (33 : Int)) (P := fun i => ∀ y : St, (∀ a z, a ≠ 98 → vA y a z = vA s a z) → (∀ a k, vF y a k = vF s a k) → (∀ z, 0 ≤ z → z < i → vA y 98 z = 0) → Gs X d 133 2 [some (.ref 95), some (.int (iI i)), none, none] [] (y) (fun vv yy => vv = none ∧ (fun u => (∀ a z, a ≠ 98 → vA u a z = vA s a z) ∧ (∀ a k, ¬ (a = 95 ∧ (k = 5 ∨ k = 7 ∨ k = 9)) → vF u a k = vF s a k) ∧ (vF u 95 5 = 0 ∧ vF u 95 7 = 0 ∧ vF u 95 9 = 0) ∧ ∀ z, 0 ≤ z → z < 33 → vA u 98 z = (if z < 28 then bgV s z else 0)) yy)) (by omega) (fun i hi hin ih => ?_) ?_ s (fun _ _ _ => rfl) (fun _ _ => rfl) (fun z a b => absurd b (by omega))
  · show ∀ y : St, (∀ a z, a ≠ 98 → vA y a z = vA s a z) → (∀ a k, vF y a k = vF s a k) → (∀ z, 0 ≤ z → z < i → vA y 98 z = 0) → Gs X d 133 2 [some (.ref 95), some (.int (iI i)), none, none] [] (y) _
    intro y oA oF hz
    refine Gs_iload_n p133_2 rfl rfl ?_
    refine Gs_bipush p133_3 (by decide) ?_
    refine Gs_icmp_ge (tgt := 21) p133_5 (by rfl) (by first | assumption | exact ⟨by omega, by omega⟩ | (split <;> exact ⟨by omega, by omega⟩)) (by first | assumption | exact ⟨by omega, by omega⟩ | (split <;> exact ⟨by omega, by omega⟩)) (fun hc5 => absurd ‹_› (by first | omega | assumption)) (fun hc5 => ?_)
    refine Gs_aload_n p133_8 rfl rfl ?_
    refine Gs_getR p133_9 (by first | rfl | assumption | exact (show isTale _ from by assumption).1 | exact (show isCamp _ _ from by assumption).1 | exact (show isRow _ _ from by assumption).1) (by rfl) ?_
    refine Gs_iload_n p133_12 rfl rfl ?_
    refine Gs_iconst p133_13 ?_
    refine Gs_iast p133_14 (by first | rfl | assumption | exact (show isTale _ from by assumption).1 | exact (show isCamp _ _ from by assumption).1 | exact (show isRow _ _ from by assumption).1) (by omega) (by omega) (by omega) ?_
    refine Gs_iinc1 (b51 := none) p133_15 (by first | rfl | assumption) ?_
    refine Gs_goto (tgt := 2) p133_18 (by rfl) ?_
    refine ih _ (fun a z x => by rw [vA_sA, if_neg (fun q => x q.1)]; exact oA a z x) (fun a k => by rw [vF_sA]; exact oF a k) (fun z a b => ?_)
    rw [vA_sA]
    by_cases c : z = i
    · rw [if_pos ⟨rfl, c⟩]
    · rw [if_neg (fun q => c q.2)]; exact hz z a (by omega)
  · show ∀ y : St, (∀ a z, a ≠ 98 → vA y a z = vA s a z) → (∀ a k, vF y a k = vF s a k) → (∀ z, 0 ≤ z → z < ((33 : Int)) → vA y 98 z = 0) → Gs X d 133 2 [some (.ref 95), some (.int (iI ((33 : Int)))), none, none] [] (y) _
    intro y oA oF hz
    refine Gs_iload_n p133_2 rfl rfl ?_
    refine Gs_bipush p133_3 (by decide) ?_
    refine Gs_icmp_ge (tgt := 21) p133_5 (by rfl) (by first | assumption | exact ⟨by omega, by omega⟩ | (split <;> exact ⟨by omega, by omega⟩)) (by first | assumption | exact ⟨by omega, by omega⟩ | (split <;> exact ⟨by omega, by omega⟩)) (fun hc5 => ?_) (fun hc5 => absurd ‹_› (by first | omega | assumption))
    refine Gs_iconst p133_21 ?_
    refine Gs_ist1 p133_22 (by first | rfl | assumption) ?_
    refine dn (n := (4 : Int)) (P := fun i => ∀ (y : St) (b2 b3 : Option Value), (∀ a z, a ≠ 98 → vA y a z = vA s a z) → (∀ a k, vF y a k = vF s a k) → (∀ z, 0 ≤ z → z < 33 → vA y 98 z = (if (z < i ∨ (4 ≤ z ∧ z < 4 + i) ∨ (8 ≤ z ∧ z < 8 + (4 * i)) ∨ (24 ≤ z ∧ z < 24 + i)) then bgV s z else 0)) → Gs X d 133 23 [some (.ref 95), some (.int (iI i)), b2, b3] [] (y) (fun vv yy => vv = none ∧ (fun u => (∀ a z, a ≠ 98 → vA u a z = vA s a z) ∧ (∀ a k, ¬ (a = 95 ∧ (k = 5 ∨ k = 7 ∨ k = 9)) → vF u a k = vF s a k) ∧ (vF u 95 5 = 0 ∧ vF u 95 7 = 0 ∧ vF u 95 9 = 0) ∧ ∀ z, 0 ≤ z → z < 33 → vA u 98 z = (if z < 28 then bgV s z else 0)) yy)) (by omega) (fun i hi hin ih => ?_) ?_ y none none oA oF (fun z z0 z1 => by rw [hz z z0 z1, if_neg (by omega)])
    · show ∀ (y : St) (b2 b3 : Option Value), (∀ a z, a ≠ 98 → vA y a z = vA s a z) → (∀ a k, vF y a k = vF s a k) → (∀ z, 0 ≤ z → z < 33 → vA y 98 z = (if (z < i ∨ (4 ≤ z ∧ z < 4 + i) ∨ (8 ≤ z ∧ z < 8 + (4 * i)) ∨ (24 ≤ z ∧ z < 24 + i)) then bgV s z else 0)) → Gs X d 133 23 [some (.ref 95), some (.int (iI i)), b2, b3] [] (y) _
      intro y b2 b3 oA oF hz
      refine Gs_iload_n p133_23 rfl rfl ?_
      refine Gs_iconst p133_24 ?_
      refine Gs_icmp_ge (tgt := 159) p133_25 (by rfl) (by first | assumption | exact ⟨by omega, by omega⟩ | (split <;> exact ⟨by omega, by omega⟩)) (by first | assumption | exact ⟨by omega, by omega⟩ | (split <;> exact ⟨by omega, by omega⟩)) (fun hc25 => absurd ‹_› (by first | omega | assumption)) (fun hc25 => ?_)
      have J1 : Gs X d 133 43 [some (.ref 95), some (.int (iI i)), b2, b3] [.int (iI (if i < vA s 96 2 then 1 else 0))] (y) (fun vv yy => vv = none ∧ (fun u => (∀ a z, a ≠ 98 → vA u a z = vA s a z) ∧ (∀ a k, ¬ (a = 95 ∧ (k = 5 ∨ k = 7 ∨ k = 9)) → vF u a k = vF s a k) ∧ (vF u 95 5 = 0 ∧ vF u 95 7 = 0 ∧ vF u 95 9 = 0) ∧ ∀ z, 0 ≤ z → z < 33 → vA u 98 z = (if z < 28 then bgV s z else 0)) yy) := by
        refine Gs_ist2 p133_43 (by first | rfl | assumption) ?_
        refine Gs_aload_n p133_44 rfl rfl ?_
        refine Gs_getR p133_45 (by first | rfl | assumption | exact (show isTale _ from by assumption).1 | exact (show isCamp _ _ from by assumption).1 | exact (show isRow _ _ from by assumption).1) (by rfl) ?_
        refine Gs_iconst p133_48 ?_
        refine Gs_iload_n p133_49 rfl rfl ?_
        refine Gs_iadd p133_50 ?_
        have J2 : Gs X d 133 68 [some (.ref 95), some (.int (iI i)), some (.int (iI (if i < vA s 96 2 then 1 else 0))), b3] [.int (iI (if i < vA s 96 2 then vA s 96 (51 + i) else 0)), .int (iI (0 + i)), .ref 98] (y) (fun vv yy => vv = none ∧ (fun u => (∀ a z, a ≠ 98 → vA u a z = vA s a z) ∧ (∀ a k, ¬ (a = 95 ∧ (k = 5 ∨ k = 7 ∨ k = 9)) → vF u a k = vF s a k) ∧ (vF u 95 5 = 0 ∧ vF u 95 7 = 0 ∧ vF u 95 9 = 0) ∧ ∀ z, 0 ≤ z → z < 33 → vA u 98 z = (if z < 28 then bgV s z else 0)) yy) := by
          refine Gs_iast p133_68 (by first | rfl | assumption | exact (show isTale _ from by assumption).1 | exact (show isCamp _ _ from by assumption).1 | exact (show isRow _ _ from by assumption).1) (by omega) (by omega) (by omega) ?_
          refine Gs_aload_n p133_69 rfl rfl ?_
          refine Gs_getR p133_70 (by first | rfl | assumption | exact (show isTale _ from by assumption).1 | exact (show isCamp _ _ from by assumption).1 | exact (show isRow _ _ from by assumption).1) (by rfl) ?_
          refine Gs_iconst p133_73 ?_
          refine Gs_iload_n p133_74 rfl rfl ?_
          refine Gs_iadd p133_75 ?_
          have J3 : Gs X d 133 94 [some (.ref 95), some (.int (iI i)), some (.int (iI (if i < vA s 96 2 then 1 else 0))), b3] [.int (iI (if i < vA s 96 2 then vA s 96 (47 + i) else -4)), .int (iI (4 + i)), .ref 98] ((sA y 98 (0 + i) (if i < vA s 96 2 then vA s 96 (51 + i) else 0))) (fun vv yy => vv = none ∧ (fun u => (∀ a z, a ≠ 98 → vA u a z = vA s a z) ∧ (∀ a k, ¬ (a = 95 ∧ (k = 5 ∨ k = 7 ∨ k = 9)) → vF u a k = vF s a k) ∧ (vF u 95 5 = 0 ∧ vF u 95 7 = 0 ∧ vF u 95 9 = 0) ∧ ∀ z, 0 ≤ z → z < 33 → vA u 98 z = (if z < 28 then bgV s z else 0)) yy) := by
            refine Gs_iast p133_94 (by first | rfl | assumption | exact (show isTale _ from by assumption).1 | exact (show isCamp _ _ from by assumption).1 | exact (show isRow _ _ from by assumption).1) (by omega) (by omega) (by omega) ?_
            refine Gs_aload_n p133_95 rfl rfl ?_
            refine Gs_getR p133_96 (by first | rfl | assumption | exact (show isTale _ from by assumption).1 | exact (show isCamp _ _ from by assumption).1 | exact (show isRow _ _ from by assumption).1) (by rfl) ?_
            refine Gs_bipush p133_99 (by decide) ?_
            refine Gs_iload_n p133_101 rfl rfl ?_
            refine Gs_iadd p133_102 ?_
            refine Gs_bipush p133_103 (by decide) ?_
            refine Gs_iast p133_105 (by first | rfl | assumption | exact (show isTale _ from by assumption).1 | exact (show isCamp _ _ from by assumption).1 | exact (show isRow _ _ from by assumption).1) (by omega) (by omega) (by omega) ?_
            refine Gs_iconst p133_106 ?_
            refine Gs_ist3 p133_107 (by first | rfl | assumption) ?_
            refine dn (n := (4 : Int)) (P := fun j => ∀ w : St, (∀ a z, a ≠ 98 → vA w a z = vA s a z) → (∀ a k, vF w a k = vF s a k) → (∀ z, 0 ≤ z → z < 33 → vA w 98 z = (if (z < (i + 1) ∨ (4 ≤ z ∧ z < 4 + (i + 1)) ∨ (8 ≤ z ∧ z < 8 + (4 * i + j)) ∨ (24 ≤ z ∧ z < 24 + (i + 1))) then bgV s z else 0)) → Gs X d 133 108 [some (.ref 95), some (.int (iI i)), some (.int (iI (if i < vA s 96 2 then 1 else 0))), some (.int (iI j))] [] (w) (fun vv yy => vv = none ∧ (fun u => (∀ a z, a ≠ 98 → vA u a z = vA s a z) ∧ (∀ a k, ¬ (a = 95 ∧ (k = 5 ∨ k = 7 ∨ k = 9)) → vF u a k = vF s a k) ∧ (vF u 95 5 = 0 ∧ vF u 95 7 = 0 ∧ vF u 95 9 = 0) ∧ ∀ z, 0 ≤ z → z < 33 → vA u 98 z = (if z < 28 then bgV s z else 0)) yy)) (by omega) (fun j hj hjn ih2 => ?_) ?_ (sA (sA (sA y 98 (0 + i) (if i < vA s 96 2 then vA s 96 (51 + i) else 0)) 98 (4 + i) (if i < vA s 96 2 then vA s 96 (47 + i) else -4)) 98 (24 + i) (-4)) (fun a z x => by rw [vA_sA, if_neg (fun q => x q.1), vA_sA, if_neg (fun q => x q.1), vA_sA, if_neg (fun q => x q.1)]; exact oA a z x) (fun a k => oF a k) (fun z z0 z1 => ?_)
            · show ∀ w : St, (∀ a z, a ≠ 98 → vA w a z = vA s a z) → (∀ a k, vF w a k = vF s a k) → (∀ z, 0 ≤ z → z < 33 → vA w 98 z = (if (z < (i + 1) ∨ (4 ≤ z ∧ z < 4 + (i + 1)) ∨ (8 ≤ z ∧ z < 8 + (4 * i + j)) ∨ (24 ≤ z ∧ z < 24 + (i + 1))) then bgV s z else 0)) → Gs X d 133 108 [some (.ref 95), some (.int (iI i)), some (.int (iI (if i < vA s 96 2 then 1 else 0))), some (.int (iI j))] [] (w) _
              intro w oA2 oF2 hz2
              refine Gs_iload_n p133_108 rfl rfl ?_
              refine Gs_iconst p133_109 ?_
              refine Gs_icmp_ge (tgt := 153) p133_110 (by rfl) (by first | assumption | exact ⟨by omega, by omega⟩ | (split <;> exact ⟨by omega, by omega⟩)) (by first | assumption | exact ⟨by omega, by omega⟩ | (split <;> exact ⟨by omega, by omega⟩)) (fun hc110 => absurd ‹_› (by first | omega | assumption)) (fun hc110 => ?_)
              refine Gs_aload_n p133_113 rfl rfl ?_
              refine Gs_getR p133_114 (by first | rfl | assumption | exact (show isTale _ from by assumption).1 | exact (show isCamp _ _ from by assumption).1 | exact (show isRow _ _ from by assumption).1) (by rfl) ?_
              refine Gs_bipush p133_117 (by decide) ?_
              refine Gs_iconst p133_119 ?_
              refine Gs_iload_n p133_120 rfl rfl ?_
              refine Gs_imul p133_121 ?_
              refine Gs_iadd p133_122 ?_
              refine Gs_iload_n p133_123 rfl rfl ?_
              refine Gs_iadd p133_124 ?_
              have J4 : Gs X d 133 146 [some (.ref 95), some (.int (iI i)), some (.int (iI (if i < vA s 96 2 then 1 else 0))), some (.int (iI j))] [.int (iI (if i < vA s 96 2 then vA s 96 (55 + 4 * i + j) else 0)), .int (iI (8 + 4 * i + j)), .ref 98] (w) (fun vv yy => vv = none ∧ (fun u => (∀ a z, a ≠ 98 → vA u a z = vA s a z) ∧ (∀ a k, ¬ (a = 95 ∧ (k = 5 ∨ k = 7 ∨ k = 9)) → vF u a k = vF s a k) ∧ (vF u 95 5 = 0 ∧ vF u 95 7 = 0 ∧ vF u 95 9 = 0) ∧ ∀ z, 0 ≤ z → z < 33 → vA u 98 z = (if z < 28 then bgV s z else 0)) yy) := by
                refine Gs_iast p133_146 (by first | rfl | assumption | exact (show isTale _ from by assumption).1 | exact (show isCamp _ _ from by assumption).1 | exact (show isRow _ _ from by assumption).1) (by omega) (by omega) (by omega) ?_
                refine Gs_iinc3 (b53 := none) p133_147 (by first | rfl | assumption) ?_
                refine Gs_goto (tgt := 108) p133_150 (by rfl) ?_
                refine ih2 _ (fun a z x => by rw [vA_sA, if_neg (fun q => x q.1)]; exact oA2 a z x) (fun a k => by rw [vF_sA]; exact oF2 a k) (fun z z0 z1 => ?_)
                rw [vA_sA]
                by_cases c : z = 8 + 4 * i + j
                · rw [if_pos ⟨rfl, c⟩, if_pos (show (z < (i + 1) ∨ (4 ≤ z ∧ z < 4 + (i + 1)) ∨ (8 ≤ z ∧ z < 8 + (4 * i + (j + 1))) ∨ (24 ≤ z ∧ z < 24 + (i + 1))) by omega)]
                  unfold bgV
                  rw [if_neg (show ¬ z < 4 by omega), if_neg (show ¬ z < 8 by omega), if_pos (show z < 24 by omega), show (z - 8) / 4 = i by omega, show 55 + 4 * i + j = 55 + (z - 8) by omega]
                · rw [if_neg (fun q => c q.2), hz2 z z0 z1]
                  by_cases e : (z < (i + 1) ∨ (4 ≤ z ∧ z < 4 + (i + 1)) ∨ (8 ≤ z ∧ z < 8 + (4 * i + j)) ∨ (24 ≤ z ∧ z < 24 + (i + 1)))
                  · rw [if_pos e, if_pos (by omega)]
                  · rw [if_neg e, if_neg (by omega)]
              refine Gs_iload_n p133_125 rfl rfl ?_
              refine Gs_ifb_eq (tgt := 145) p133_126 (by rfl) (fun h126 => ?_) (fun h126 => ?_)
              · refine Gs_iconst p133_145 ?_
                first
                  | (rw [show ((if i < vA s 96 2 then vA s 96 (55 + 4 * i + j) else 0) : Int) = vA s 96 (55 + 4 * i + j) from if_pos (by omega)] at J4; exact J4)
                  | (rw [show ((if i < vA s 96 2 then vA s 96 (55 + 4 * i + j) else 0) : Int) = 0 from if_neg (by omega)] at J4; exact J4)
              · refine Gs_aload_n p133_129 rfl rfl ?_
                refine Gs_getR p133_130 (by first | rfl | assumption | exact (show isTale _ from by assumption).1 | exact (show isCamp _ _ from by assumption).1 | exact (show isRow _ _ from by assumption).1) (by rfl) ?_
                refine Gs_bipush p133_133 (by decide) ?_
                refine Gs_iconst p133_135 ?_
                refine Gs_iload_n p133_136 rfl rfl ?_
                refine Gs_imul p133_137 ?_
                refine Gs_iadd p133_138 ?_
                refine Gs_iload_n p133_139 rfl rfl ?_
                refine Gs_iadd p133_140 ?_
                refine Gs_iald p133_141 (by first | rfl | assumption | exact (show isTale _ from by assumption).1 | exact (show isCamp _ _ from by assumption).1 | exact (show isRow _ _ from by assumption).1) (by omega) (by omega) (by omega) ?_
                rw [oA2 96 _ (by decide)]
                refine Gs_goto (tgt := 146) p133_142 (by rfl) ?_
                first
                  | (rw [show ((if i < vA s 96 2 then vA s 96 (55 + 4 * i + j) else 0) : Int) = vA s 96 (55 + 4 * i + j) from if_pos (by omega)] at J4; exact J4)
                  | (rw [show ((if i < vA s 96 2 then vA s 96 (55 + 4 * i + j) else 0) : Int) = 0 from if_neg (by omega)] at J4; exact J4)
            · show ∀ w : St, (∀ a z, a ≠ 98 → vA w a z = vA s a z) → (∀ a k, vF w a k = vF s a k) → (∀ z, 0 ≤ z → z < 33 → vA w 98 z = (if (z < (i + 1) ∨ (4 ≤ z ∧ z < 4 + (i + 1)) ∨ (8 ≤ z ∧ z < 8 + (4 * i + ((4 : Int)))) ∨ (24 ≤ z ∧ z < 24 + (i + 1))) then bgV s z else 0)) → Gs X d 133 108 [some (.ref 95), some (.int (iI i)), some (.int (iI (if i < vA s 96 2 then 1 else 0))), some (.int (iI ((4 : Int))))] [] (w) _
              intro w oA2 oF2 hz2
              refine Gs_iload_n p133_108 rfl rfl ?_
              refine Gs_iconst p133_109 ?_
              refine Gs_icmp_ge (tgt := 153) p133_110 (by rfl) (by first | assumption | exact ⟨by omega, by omega⟩ | (split <;> exact ⟨by omega, by omega⟩)) (by first | assumption | exact ⟨by omega, by omega⟩ | (split <;> exact ⟨by omega, by omega⟩)) (fun hc110 => ?_) (fun hc110 => absurd ‹_› (by first | omega | assumption))
              refine Gs_iinc1 (b51 := none) p133_153 (by first | rfl | assumption) ?_
              refine Gs_goto (tgt := 23) p133_156 (by rfl) ?_
              refine ih w _ _ oA2 oF2 (fun z z0 z1 => ?_)
              rw [hz2 z z0 z1, show 4 * i + 4 = 4 * (i + 1) by omega]
            · rw [vA_sA]
              by_cases c3 : z = 24 + i
              · rw [if_pos ⟨rfl, c3⟩, if_pos (show (z < (i + 1) ∨ (4 ≤ z ∧ z < 4 + (i + 1)) ∨ (8 ≤ z ∧ z < 8 + (4 * i + 0)) ∨ (24 ≤ z ∧ z < 24 + (i + 1))) by omega)]
                unfold bgV
                rw [if_neg (show ¬ z < 4 by omega), if_neg (show ¬ z < 8 by omega), if_neg (show ¬ z < 24 by omega)]
              · rw [if_neg (fun q => c3 q.2), vA_sA]
                by_cases c2 : z = 4 + i
                · rw [if_pos ⟨rfl, c2⟩, if_pos (show (z < (i + 1) ∨ (4 ≤ z ∧ z < 4 + (i + 1)) ∨ (8 ≤ z ∧ z < 8 + (4 * i + 0)) ∨ (24 ≤ z ∧ z < 24 + (i + 1))) by omega)]
                  unfold bgV
                  rw [if_neg (show ¬ z < 4 by omega), if_pos (show z < 8 by omega), show z - 4 = i by omega]
                · rw [if_neg (fun q => c2 q.2), vA_sA]
                  by_cases c1 : z = 0 + i
                  · rw [if_pos ⟨rfl, c1⟩, if_pos (show (z < (i + 1) ∨ (4 ≤ z ∧ z < 4 + (i + 1)) ∨ (8 ≤ z ∧ z < 8 + (4 * i + 0)) ∨ (24 ≤ z ∧ z < 24 + (i + 1))) by omega)]
                    unfold bgV
                    rw [if_pos (show z < 4 by omega), show z = i by omega]
                  · rw [if_neg (fun q => c1 q.2), hz z z0 z1]
                    by_cases e : (z < i ∨ (4 ≤ z ∧ z < 4 + i) ∨ (8 ≤ z ∧ z < 8 + (4 * i)) ∨ (24 ≤ z ∧ z < 24 + i))
                    · rw [if_pos e, if_pos (by omega)]
                    · rw [if_neg e, if_neg (by omega)]
          refine Gs_iload_n p133_76 rfl rfl ?_
          refine Gs_ifb_eq (tgt := 92) p133_77 (by rfl) (fun h77 => ?_) (fun h77 => ?_)
          · refine Gs_bipush p133_92 (by decide) ?_
            first
              | (rw [show ((if i < vA s 96 2 then vA s 96 (47 + i) else -4) : Int) = vA s 96 (47 + i) from if_pos (by omega)] at J3; exact J3)
              | (rw [show ((if i < vA s 96 2 then vA s 96 (47 + i) else -4) : Int) = -4 from if_neg (by omega)] at J3; exact J3)
          · refine Gs_aload_n p133_80 rfl rfl ?_
            refine Gs_getR p133_81 (by first | rfl | assumption | exact (show isTale _ from by assumption).1 | exact (show isCamp _ _ from by assumption).1 | exact (show isRow _ _ from by assumption).1) (by rfl) ?_
            refine Gs_bipush p133_84 (by decide) ?_
            refine Gs_iload_n p133_86 rfl rfl ?_
            refine Gs_iadd p133_87 ?_
            refine Gs_iald p133_88 (by first | rfl | assumption | exact (show isTale _ from by assumption).1 | exact (show isCamp _ _ from by assumption).1 | exact (show isRow _ _ from by assumption).1) (by omega) (by omega) (by omega) ?_
            rw [show vA (sA y 98 (0 + i) (if i < vA s 96 2 then vA s 96 (51 + i) else 0)) 96 (47 + i) = vA s 96 (47 + i) from oA 96 _ (by decide)]
            refine Gs_goto (tgt := 94) p133_89 (by rfl) ?_
            first
              | (rw [show ((if i < vA s 96 2 then vA s 96 (47 + i) else -4) : Int) = vA s 96 (47 + i) from if_pos (by omega)] at J3; exact J3)
              | (rw [show ((if i < vA s 96 2 then vA s 96 (47 + i) else -4) : Int) = -4 from if_neg (by omega)] at J3; exact J3)
        refine Gs_iload_n p133_51 rfl rfl ?_
        refine Gs_ifb_eq (tgt := 67) p133_52 (by rfl) (fun h52 => ?_) (fun h52 => ?_)
        · refine Gs_iconst p133_67 ?_
          first
            | (rw [show ((if i < vA s 96 2 then vA s 96 (51 + i) else 0) : Int) = vA s 96 (51 + i) from if_pos (by omega)] at J2; exact J2)
            | (rw [show ((if i < vA s 96 2 then vA s 96 (51 + i) else 0) : Int) = 0 from if_neg (by omega)] at J2; exact J2)
        · refine Gs_aload_n p133_55 rfl rfl ?_
          refine Gs_getR p133_56 (by first | rfl | assumption | exact (show isTale _ from by assumption).1 | exact (show isCamp _ _ from by assumption).1 | exact (show isRow _ _ from by assumption).1) (by rfl) ?_
          refine Gs_bipush p133_59 (by decide) ?_
          refine Gs_iload_n p133_61 rfl rfl ?_
          refine Gs_iadd p133_62 ?_
          refine Gs_iald p133_63 (by first | rfl | assumption | exact (show isTale _ from by assumption).1 | exact (show isCamp _ _ from by assumption).1 | exact (show isRow _ _ from by assumption).1) (by omega) (by omega) (by omega) ?_
          rw [oA 96 _ (by decide)]
          refine Gs_goto (tgt := 68) p133_64 (by rfl) ?_
          first
            | (rw [show ((if i < vA s 96 2 then vA s 96 (51 + i) else 0) : Int) = vA s 96 (51 + i) from if_pos (by omega)] at J2; exact J2)
            | (rw [show ((if i < vA s 96 2 then vA s 96 (51 + i) else 0) : Int) = 0 from if_neg (by omega)] at J2; exact J2)
      refine Gs_iload_n p133_28 rfl rfl ?_
      refine Gs_aload_n p133_29 rfl rfl ?_
      refine Gs_getR p133_30 (by first | rfl | assumption | exact (show isTale _ from by assumption).1 | exact (show isCamp _ _ from by assumption).1 | exact (show isRow _ _ from by assumption).1) (by rfl) ?_
      refine Gs_iconst p133_33 ?_
      refine Gs_iald p133_34 (by first | rfl | assumption | exact (show isTale _ from by assumption).1 | exact (show isCamp _ _ from by assumption).1 | exact (show isRow _ _ from by assumption).1) (by omega) (by omega) (by omega) ?_
      rw [oA 96 _ (by decide)]
      refine Gs_icmp_ge (tgt := 42) p133_35 (by rfl) (by first | assumption | exact ⟨by omega, by omega⟩ | (split <;> exact ⟨by omega, by omega⟩)) (by first | assumption | exact ⟨by omega, by omega⟩ | (split <;> exact ⟨by omega, by omega⟩)) (fun h35 => ?_) (fun h35 => ?_)
      · refine Gs_iconst p133_42 ?_
        first
          | (rw [show ((if i < vA s 96 2 then 1 else 0) : Int) = 1 from if_pos (by omega)] at J1; exact J1)
          | (rw [show ((if i < vA s 96 2 then 1 else 0) : Int) = 0 from if_neg (by omega)] at J1; exact J1)
      · refine Gs_iconst p133_38 ?_
        refine Gs_goto (tgt := 43) p133_39 (by rfl) ?_
        first
          | (rw [show ((if i < vA s 96 2 then 1 else 0) : Int) = 1 from if_pos (by omega)] at J1; exact J1)
          | (rw [show ((if i < vA s 96 2 then 1 else 0) : Int) = 0 from if_neg (by omega)] at J1; exact J1)
    · show ∀ (y : St) (b2 b3 : Option Value), (∀ a z, a ≠ 98 → vA y a z = vA s a z) → (∀ a k, vF y a k = vF s a k) → (∀ z, 0 ≤ z → z < 33 → vA y 98 z = (if (z < ((4 : Int)) ∨ (4 ≤ z ∧ z < 4 + ((4 : Int))) ∨ (8 ≤ z ∧ z < 8 + (4 * ((4 : Int)))) ∨ (24 ≤ z ∧ z < 24 + ((4 : Int)))) then bgV s z else 0)) → Gs X d 133 23 [some (.ref 95), some (.int (iI ((4 : Int)))), b2, b3] [] (y) _
      intro y b2 b3 oA oF hz
      refine Gs_iload_n p133_23 rfl rfl ?_
      refine Gs_iconst p133_24 ?_
      refine Gs_icmp_ge (tgt := 159) p133_25 (by rfl) (by first | assumption | exact ⟨by omega, by omega⟩ | (split <;> exact ⟨by omega, by omega⟩)) (by first | assumption | exact ⟨by omega, by omega⟩ | (split <;> exact ⟨by omega, by omega⟩)) (fun hc25 => ?_) (fun hc25 => absurd ‹_› (by first | omega | assumption))
      refine Gs_aload_n p133_159 rfl rfl ?_
      refine Gs_iconst p133_160 ?_
      refine Gs_putI p133_161 (by first | rfl | assumption | exact (show isTale _ from by assumption).1 | exact (show isCamp _ _ from by assumption).1 | exact (show isRow _ _ from by assumption).1) (by rfl) (by rfl) (by rfl) ?_
      refine Gs_aload_n p133_164 rfl rfl ?_
      refine Gs_iconst p133_165 ?_
      refine Gs_putI p133_166 (by first | rfl | assumption | exact (show isTale _ from by assumption).1 | exact (show isCamp _ _ from by assumption).1 | exact (show isRow _ _ from by assumption).1) (by rfl) (by rfl) (by rfl) ?_
      refine Gs_aload_n p133_169 rfl rfl ?_
      refine Gs_iconst p133_170 ?_
      refine Gs_putI p133_171 (by first | rfl | assumption | exact (show isTale _ from by assumption).1 | exact (show isCamp _ _ from by assumption).1 | exact (show isRow _ _ from by assumption).1) (by rfl) (by rfl) (by rfl) ?_
      refine Gs_vret p133_174 rfl ⟨rfl, ?_⟩
      refine ⟨fun a z x => oA a z x, fun a k x => ?_, ⟨?_, ?_, ?_⟩, fun z z0 z1 => ?_⟩
      · rw [vF_sF, if_neg (by omega), vF_sF, if_neg (by omega), vF_sF, if_neg (by omega)]; exact oF a k
      · rw [vF_sF, if_neg (by decide), vF_sF, if_neg (by decide), vF_sF, if_pos ⟨rfl, rfl⟩]
      · rw [vF_sF, if_neg (by decide), vF_sF, if_pos ⟨rfl, rfl⟩]
      · rw [vF_sF, if_pos ⟨rfl, rfl⟩]
      · rw [vA_sF, vA_sF, vA_sF, hz z z0 z1]
        by_cases e : z < 28
        · rw [if_pos (by omega), if_pos e]
        · rw [if_neg (by omega), if_neg e]
