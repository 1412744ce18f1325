/-! rains: the class, the call -/
set_option maxHeartbeats 1000000 in
set_option maxRecDepth 4000 in
theorem k_rains {X : vX} {s : St} {N c n x part : Int} (hT : TaleOk s 5) (hC : CampOk s 14 N) (c0 : 0 ≤ c) (c1 : c < N) (n0 : 0 ≤ n) (n1 : n ≤ 8) (x0 : 0 ≤ x) (x1 : x ≤ 10) (p0 : 0 ≤ part) (p1 : part ≤ 1) : OkI X 5 116 [.ref 0, .int (iI c), .int (iI n), .int (iI x), .int (iI part)] s (fun z u => z = raA part n.toNat (FW (stR (cg s 14 c 6) (fun e => rnI s 5 (vF s 14 2 + e))) x n.toNat (cg s 14 c 0) 0) ∧ ChF s u) := by
  refine Ok.of (r := vm_m116) (ls := [some (.ref 0), some (.int (iI c)), some (.int (iI n)), some (.int (iI x)), some (.int (iI part))]) rfl (Nat.le_of_ble_eq_true rfl) rfl (fun d hd => ?_)
  have n4 := hC.2.1
  refine Gs_aload_n p116_0 rfl rfl ?_
  refine Gs_getR p116_1 (by first | rfl | assumption | exact (show isTale _ from by assumption).1 | exact (show isCamp _ _ from by assumption).1 | exact (show isRow _ _ from by assumption).1) (by rfl) ?_
  refine Gs_iload_n p116_4 rfl rfl ?_
  refine Gs_callV1I p116_5 (by rfl) (by rfl) (by first | rfl | assumption | exact (show isTale _ from by assumption).1 | exact (show isCamp _ _ from by assumption).1 | exact (show isRow _ _ from by assumption).1) (Nat.le_of_ble_eq_true rfl) (by decide) (c_isCompany camp14 hC ⟨by omega, by omega⟩) (by omega) ?_
  refine Gs_ifb_eq (tgt := 41) p116_8 (by rfl) (fun h8 => ?_) (fun h8 => ?_)
  · exfalso; omega
  · refine Gs_iload_n p116_11 rfl rfl ?_
    refine Gs_iconst p116_12 ?_
    refine Gs_bipush p116_13 (by decide) ?_
    refine Gs_callS3I p116_15 (by rfl) (Nat.le_of_ble_eq_true rfl) (by decide) (c_within ⟨by omega, by omega⟩ ⟨by omega, by omega⟩ ⟨by omega, by omega⟩) (by omega) ?_
    refine Gs_ifb_eq (tgt := 41) p116_18 (by rfl) (fun h18 => ?_) (fun h18 => ?_)
    · exfalso; omega
    · refine Gs_iload_n p116_21 rfl rfl ?_
      refine Gs_iconst p116_22 ?_
      refine Gs_bipush p116_23 (by decide) ?_
      refine Gs_callS3I p116_25 (by rfl) (Nat.le_of_ble_eq_true rfl) (by decide) (c_within ⟨by omega, by omega⟩ ⟨by omega, by omega⟩ ⟨by omega, by omega⟩) (by omega) ?_
      refine Gs_ifb_eq (tgt := 41) p116_28 (by rfl) (fun h28 => ?_) (fun h28 => ?_)
      · exfalso; omega
      · refine Gs_iload p116_31 rfl rfl ?_
        refine Gs_iconst p116_33 ?_
        refine Gs_iconst p116_34 ?_
        refine Gs_callS3I p116_35 (by rfl) (Nat.le_of_ble_eq_true rfl) (by decide) (c_within ⟨by omega, by omega⟩ ⟨by omega, by omega⟩ ⟨by omega, by omega⟩) (by omega) ?_
        refine Gs_ifb_ne (tgt := 43) p116_38 (by rfl) (fun h38 => ?_) (fun h38 => ?_)
        · refine Gs_aload_n p116_43 rfl rfl ?_
          refine Gs_getR p116_44 (by first | rfl | assumption | exact (show isTale _ from by assumption).1 | exact (show isCamp _ _ from by assumption).1 | exact (show isRow _ _ from by assumption).1) (by rfl) ?_
          refine Gs_aload_n p116_47 rfl rfl ?_
          refine Gs_getR p116_48 (by first | rfl | assumption | exact (show isTale _ from by assumption).1 | exact (show isCamp _ _ from by assumption).1 | exact (show isRow _ _ from by assumption).1) (by rfl) ?_
          refine Gs_iload_n p116_51 rfl rfl ?_
          refine Gs_iload_n p116_52 rfl rfl ?_
          refine Gs_iload_n p116_53 rfl rfl ?_
          refine Gs_iload p116_54 rfl rfl ?_
          refine Gs_callV5i p116_56 (by rfl) (by rfl) (by rfl) (Nat.le_of_ble_eq_true rfl) (by decide) (c_chance hT hC c0 c1 n0 n1 x0 x1 p0 p1) (by omega) (fun z56 s56 h56 => ?_)
          refine Gs_iret p116_59 rfl ⟨_, rfl, ?_⟩
          exact h56
        · exfalso; omega

set_option maxHeartbeats 1000000 in
set_option maxRecDepth 4000 in
theorem k_rains_no {X : vX} {s : St} {N c n x part : Int} (hC : CampOk s 14 N) (gc : rg c) (gn : rg n) (gx : rg x) (gp : rg part) (hno : ¬ ((0 ≤ c ∧ c < N) ∧ (0 ≤ n ∧ n ≤ 8) ∧ (0 ≤ x ∧ x ≤ 10) ∧ (0 ≤ part ∧ part ≤ 1))) : OkI X 5 116 [.ref 0, .int (iI c), .int (iI n), .int (iI x), .int (iI part)] s (Is1 (-1) s) := by
  refine Ok.of (r := vm_m116) (ls := [some (.ref 0), some (.int (iI c)), some (.int (iI n)), some (.int (iI x)), some (.int (iI part))]) rfl (Nat.le_of_ble_eq_true rfl) rfl (fun d hd => ?_)
  refine Gs_aload_n p116_0 rfl rfl ?_
  refine Gs_getR p116_1 (by first | rfl | assumption | exact (show isTale _ from by assumption).1 | exact (show isCamp _ _ from by assumption).1 | exact (show isRow _ _ from by assumption).1) (by rfl) ?_
  refine Gs_iload_n p116_4 rfl rfl ?_
  refine Gs_callV1I p116_5 (by rfl) (by rfl) (by first | rfl | assumption | exact (show isTale _ from by assumption).1 | exact (show isCamp _ _ from by assumption).1 | exact (show isRow _ _ from by assumption).1) (Nat.le_of_ble_eq_true rfl) (by decide) (c_isCompany camp14 hC gc) (by omega) ?_
  refine Gs_ifb_eq (tgt := 41) p116_8 (by rfl) (fun h8 => ?_) (fun h8 => ?_)
  · refine Gs_iconst p116_41 ?_
    refine Gs_iret p116_42 rfl ⟨_, rfl, ?_⟩
    exact ⟨rfl, rfl⟩
  · refine Gs_iload_n p116_11 rfl rfl ?_
    refine Gs_iconst p116_12 ?_
    refine Gs_bipush p116_13 (by decide) ?_
    refine Gs_callS3I p116_15 (by rfl) (Nat.le_of_ble_eq_true rfl) (by decide) (c_within gn ⟨by omega, by omega⟩ ⟨by omega, by omega⟩) (by omega) ?_
    refine Gs_ifb_eq (tgt := 41) p116_18 (by rfl) (fun h18 => ?_) (fun h18 => ?_)
    · refine Gs_iconst p116_41 ?_
      refine Gs_iret p116_42 rfl ⟨_, rfl, ?_⟩
      exact ⟨rfl, rfl⟩
    · refine Gs_iload_n p116_21 rfl rfl ?_
      refine Gs_iconst p116_22 ?_
      refine Gs_bipush p116_23 (by decide) ?_
      refine Gs_callS3I p116_25 (by rfl) (Nat.le_of_ble_eq_true rfl) (by decide) (c_within gx ⟨by omega, by omega⟩ ⟨by omega, by omega⟩) (by omega) ?_
      refine Gs_ifb_eq (tgt := 41) p116_28 (by rfl) (fun h28 => ?_) (fun h28 => ?_)
      · refine Gs_iconst p116_41 ?_
        refine Gs_iret p116_42 rfl ⟨_, rfl, ?_⟩
        exact ⟨rfl, rfl⟩
      · refine Gs_iload p116_31 rfl rfl ?_
        refine Gs_iconst p116_33 ?_
        refine Gs_iconst p116_34 ?_
        refine Gs_callS3I p116_35 (by rfl) (Nat.le_of_ble_eq_true rfl) (by decide) (c_within gp ⟨by omega, by omega⟩ ⟨by omega, by omega⟩) (by omega) ?_
        refine Gs_ifb_ne (tgt := 43) p116_38 (by rfl) (fun h38 => ?_) (fun h38 => ?_)
        · exfalso; omega
        · refine Gs_iconst p116_41 ?_
          refine Gs_iret p116_42 rfl ⟨_, rfl, ?_⟩
          exact ⟨rfl, rfl⟩
