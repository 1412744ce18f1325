/-! light, hand, pass -/
set_option maxHeartbeats 1000000 in
set_option maxRecDepth 4000 in
theorem c_areTwo {X : vX} {s : St} {n : Int} (hC : CampOk s 14 n) {a b : Int} (ga : rg a) (gb : rg b) : OkI X 3 123 [.ref 0, .int (iI a), .int (iI b)] s (Is1 (if ((0 ≤ a ∧ a < n) ∧ (0 ≤ b ∧ b < n) ∧ a ≠ b) then 1 else 0) s) := by
  refine Ok.of (r := vm_m123) (ls := [some (.ref 0), some (.int (iI a)), some (.int (iI b))]) rfl (Nat.le_of_ble_eq_true rfl) rfl (fun d hd => ?_)
  refine Gs_aload_n p123_0 rfl rfl ?_
  refine Gs_getR p123_1 (by first | rfl | assumption | exact (show isTale _ from by assumption).1 | exact (show isCamp _ _ from by assumption).1 | exact (show isRow _ _ from by assumption).1) (by rfl) ?_
  refine Gs_iload_n p123_4 rfl rfl ?_
  refine Gs_callV1I p123_5 (by rfl) (by rfl) (by first | rfl | assumption | exact (show isTale _ from by assumption).1 | exact (show isCamp _ _ from by assumption).1 | exact (show isRow _ _ from by assumption).1) (Nat.le_of_ble_eq_true rfl) (by decide) (c_isCompany camp14 hC ga) (by omega) ?_
  refine Gs_ifb_eq (tgt := 31) p123_8 (by rfl) (fun h8 => ?_) (fun h8 => ?_)
  · refine Gs_iconst p123_31 ?_
    refine Gs_zret p123_32 rfl (by first | exact Or.inl rfl | exact Or.inr rfl | (split <;> first | exact Or.inl rfl | exact Or.inr rfl)) ⟨_, rfl, ?_⟩
    refine ⟨?_, rfl⟩
    first | (rw [if_neg (by omega)]; done) | (rw [if_pos (by omega)]; done)
  · refine Gs_aload_n p123_11 rfl rfl ?_
    refine Gs_getR p123_12 (by first | rfl | assumption | exact (show isTale _ from by assumption).1 | exact (show isCamp _ _ from by assumption).1 | exact (show isRow _ _ from by assumption).1) (by rfl) ?_
    refine Gs_iload_n p123_15 rfl rfl ?_
    refine Gs_callV1I p123_16 (by rfl) (by rfl) (by first | rfl | assumption | exact (show isTale _ from by assumption).1 | exact (show isCamp _ _ from by assumption).1 | exact (show isRow _ _ from by assumption).1) (Nat.le_of_ble_eq_true rfl) (by decide) (c_isCompany camp14 hC gb) (by omega) ?_
    refine Gs_ifb_eq (tgt := 31) p123_19 (by rfl) (fun h19 => ?_) (fun h19 => ?_)
    · refine Gs_iconst p123_31 ?_
      refine Gs_zret p123_32 rfl (by first | exact Or.inl rfl | exact Or.inr rfl | (split <;> first | exact Or.inl rfl | exact Or.inr rfl)) ⟨_, rfl, ?_⟩
      refine ⟨?_, rfl⟩
      first | (rw [if_neg (by omega)]; done) | (rw [if_pos (by omega)]; done)
    · refine Gs_iload_n p123_22 rfl rfl ?_
      refine Gs_iload_n p123_23 rfl rfl ?_
      refine Gs_icmp_eq (tgt := 31) p123_24 (by rfl) (by first | assumption | exact ⟨by omega, by omega⟩ | (split <;> exact ⟨by omega, by omega⟩)) (by first | assumption | exact ⟨by omega, by omega⟩ | (split <;> exact ⟨by omega, by omega⟩)) (fun h24 => ?_) (fun h24 => ?_)
      · refine Gs_iconst p123_31 ?_
        refine Gs_zret p123_32 rfl (by first | exact Or.inl rfl | exact Or.inr rfl | (split <;> first | exact Or.inl rfl | exact Or.inr rfl)) ⟨_, rfl, ?_⟩
        refine ⟨?_, rfl⟩
        first | (rw [if_neg (by omega)]; done) | (rw [if_pos (by omega)]; done)
      · refine Gs_iconst p123_27 ?_
        refine Gs_goto (tgt := 32) p123_28 (by rfl) ?_
        refine Gs_zret p123_32 rfl (by first | exact Or.inl rfl | exact Or.inr rfl | (split <;> first | exact Or.inl rfl | exact Or.inr rfl)) ⟨_, rfl, ?_⟩
        refine ⟨?_, rfl⟩
        first | (rw [if_neg (by omega)]; done) | (rw [if_pos (by omega)]; done)

set_option maxHeartbeats 1000000 in
set_option maxRecDepth 4000 in
theorem k_light {X : vX} {s : St} {n : Int} (hC : CampOk s 14 n) (hp : 0 ≤ vF s 20 1 ∧ vF s 20 1 < 100000 ∧ 0 ≤ vF s 20 2 ∧ vF s 20 2 ≤ 8) {a b : Int} (a0 : 0 ≤ a) (a1 : a < n) (b0 : 0 ≤ b) (b1 : b < n) (hab : a ≠ b) (c1 : ¬ 1 ≤ cg s 14 a 0) (c2 : 4 ≤ cg s 14 b 0) : OkI X 5 102 [.ref 0, .int (iI a), .int (iI b)] s (fun z t => z = (kinV (cv s 14 n) a b) a 1 ∧ COp (P20 s) t 14 n (kinV (cv s 14 n) a b) (vF s 14 2)) := by
  refine Ok.of (r := vm_m102) (ls := [some (.ref 0), some (.int (iI a)), some (.int (iI b))]) rfl (Nat.le_of_ble_eq_true rfl) rfl (fun d hd => ?_)
  have hn := hC.2.1
  refine Gs_aload_n p102_0 rfl rfl ?_
  refine Gs_iload_n p102_1 rfl rfl ?_
  refine Gs_iload_n p102_2 rfl rfl ?_
  refine Gs_callV2I p102_3 (by rfl) (by rfl) (by first | rfl | assumption | exact (show isTale _ from by assumption).1 | exact (show isCamp _ _ from by assumption).1 | exact (show isRow _ _ from by assumption).1) (Nat.le_of_ble_eq_true rfl) (by decide) (c_areTwo hC ⟨by omega, by omega⟩ ⟨by omega, by omega⟩) (by omega) ?_
  refine Gs_ifb_ne (tgt := 11) p102_6 (by rfl) (fun h6 => ?_) (fun h6 => ?_)
  · refine Gs_aload_n p102_11 rfl rfl ?_
    refine Gs_getR p102_12 (by first | rfl | assumption | exact (show isTale _ from by assumption).1 | exact (show isCamp _ _ from by assumption).1 | exact (show isRow _ _ from by assumption).1) (by rfl) ?_
    refine Gs_iload_n p102_15 rfl rfl ?_
    refine Gs_iload_n p102_16 rfl rfl ?_
    refine Gs_callV2I p102_17 (by rfl) (by rfl) (by first | rfl | assumption | exact (show isTale _ from by assumption).1 | exact (show isCamp _ _ from by assumption).1 | exact (show isRow _ _ from by assumption).1) (Nat.le_of_ble_eq_true rfl) (by decide) (c_canKindle camp14 hC a0 a1 b0 b1) (by omega) ?_
    refine Gs_ifb_ne (tgt := 26) p102_20 (by rfl) (fun h20 => ?_) (fun h20 => ?_)
    · refine Gs_aload_n p102_26 rfl rfl ?_
      refine Gs_getR p102_27 (by first | rfl | assumption | exact (show isTale _ from by assumption).1 | exact (show isCamp _ _ from by assumption).1 | exact (show isRow _ _ from by assumption).1) (by rfl) ?_
      refine Gs_aload_n p102_30 rfl rfl ?_
      refine Gs_getR p102_31 (by first | rfl | assumption | exact (show isTale _ from by assumption).1 | exact (show isCamp _ _ from by assumption).1 | exact (show isRow _ _ from by assumption).1) (by rfl) ?_
      refine Gs_callV1W p102_34 (by rfl) (by rfl) (by first | rfl | assumption | exact (show isTale _ from by assumption).1 | exact (show isCamp _ _ from by assumption).1 | exact (show isRow _ _ from by assumption).1) (Nat.le_of_ble_eq_true rfl) (by decide) (c_push shelf20 camp14 hC (by omega) hp.1 hp.2.1 hp.2.2.1 (by omega)) (by omega) ?_
      refine Gs_aload_n p102_37 rfl rfl ?_
      refine Gs_getR p102_38 (by first | rfl | assumption | exact (show isTale _ from by assumption).1 | exact (show isCamp _ _ from by assumption).1 | exact (show isRow _ _ from by assumption).1) (by rfl) ?_
      refine Gs_iload_n p102_41 rfl rfl ?_
      refine Gs_iload_n p102_42 rfl rfl ?_
      refine Gs_callV2v p102_43 (by rfl) (by rfl) (by rfl) (Nat.le_of_ble_eq_true rfl) (by decide) (c_kindle camp14 hC.P a0 a1 b0 b1 (by rw [cg_P]; omega)) (by omega) (fun s43 h43 => ?_)
      rw [cv_P, show vF (P20 s) 14 2 = vF s 14 2 from push20_F (by omega)] at h43
      refine Gs_aload_n p102_46 rfl rfl ?_
      refine Gs_getR p102_47 (by first | rfl | assumption | exact (show isTale _ from by assumption).1 | exact (show isCamp _ _ from by assumption).1 | exact (show isRow _ _ from by assumption).1) (by rfl) ?_
      refine Gs_iload_n p102_50 rfl rfl ?_
      refine Gs_iconst p102_51 ?_
      refine Gs_callV2I p102_52 (by rfl) (by rfl) (by first | rfl | assumption | exact (show isTale _ from by assumption).1 | exact (show isCamp _ _ from by assumption).1 | exact (show isRow _ _ from by assumption).1) (Nat.le_of_ble_eq_true rfl) (by decide) (c_Cget camp14 h43.2.2.2.2 a0 a1 (by omega) (by omega)) (by omega) ?_
      refine Gs_iret p102_55 rfl ⟨_, rfl, ?_⟩
      exact ⟨h43.at a0 a1 (by omega) (by omega), h43⟩
    · refine Gs_bipush p102_23 (by decide) ?_
      refine Gs_iret p102_25 rfl ⟨_, rfl, ?_⟩
      exfalso; omega
  · refine Gs_iconst p102_9 ?_
    refine Gs_iret p102_10 rfl ⟨_, rfl, ?_⟩
    exfalso; omega

set_option maxHeartbeats 1000000 in
set_option maxRecDepth 4000 in
theorem k_light_no {X : vX} {s : St} {n : Int} (hC : CampOk s 14 n) {a b : Int} (ga : rg a) (gb : rg b) (hno : ¬ (((0 ≤ a ∧ a < n) ∧ (0 ≤ b ∧ b < n) ∧ a ≠ b) ∧ (¬ 1 ≤ cg s 14 a 0 ∧ 4 ≤ cg s 14 b 0))) : OkI X 5 102 [.ref 0, .int (iI a), .int (iI b)] s (Is1 (if ((0 ≤ a ∧ a < n) ∧ (0 ≤ b ∧ b < n) ∧ a ≠ b) then -2 else -1) s) := by
  refine Ok.of (r := vm_m102) (ls := [some (.ref 0), some (.int (iI a)), some (.int (iI b))]) rfl (Nat.le_of_ble_eq_true rfl) rfl (fun d hd => ?_)
  refine Gs_aload_n p102_0 rfl rfl ?_
  refine Gs_iload_n p102_1 rfl rfl ?_
  refine Gs_iload_n p102_2 rfl rfl ?_
  refine Gs_callV2I p102_3 (by rfl) (by rfl) (by first | rfl | assumption | exact (show isTale _ from by assumption).1 | exact (show isCamp _ _ from by assumption).1 | exact (show isRow _ _ from by assumption).1) (Nat.le_of_ble_eq_true rfl) (by decide) (c_areTwo hC ga gb) (by omega) ?_
  refine Gs_ifb_ne (tgt := 11) p102_6 (by rfl) (fun h6 => ?_) (fun h6 => ?_)
  · refine Gs_aload_n p102_11 rfl rfl ?_
    refine Gs_getR p102_12 (by first | rfl | assumption | exact (show isTale _ from by assumption).1 | exact (show isCamp _ _ from by assumption).1 | exact (show isRow _ _ from by assumption).1) (by rfl) ?_
    refine Gs_iload_n p102_15 rfl rfl ?_
    refine Gs_iload_n p102_16 rfl rfl ?_
    refine Gs_callV2I p102_17 (by rfl) (by rfl) (by first | rfl | assumption | exact (show isTale _ from by assumption).1 | exact (show isCamp _ _ from by assumption).1 | exact (show isRow _ _ from by assumption).1) (Nat.le_of_ble_eq_true rfl) (by decide) (c_canKindle camp14 hC (by omega) (by omega) (by omega) (by omega)) (by omega) ?_
    refine Gs_ifb_ne (tgt := 26) p102_20 (by rfl) (fun h20 => ?_) (fun h20 => ?_)
    · exfalso; omega
    · refine Gs_bipush p102_23 (by decide) ?_
      refine Gs_iret p102_25 rfl ⟨_, rfl, ?_⟩
      refine ⟨?_, rfl⟩
      first | (rw [if_neg (by omega)]; done) | (rw [if_pos (by omega)]; done)
  · refine Gs_iconst p102_9 ?_
    refine Gs_iret p102_10 rfl ⟨_, rfl, ?_⟩
    refine ⟨?_, rfl⟩
    first | (rw [if_neg (by omega)]; done) | (rw [if_pos (by omega)]; done)

set_option maxHeartbeats 1000000 in
set_option maxRecDepth 4000 in
theorem m_light {X : vX} {s : St} (hT : MT s) (hm : MC s 98 (vA s 96 2)) (hu : 0 ≤ vF s 95 5 ∧ vF s 95 5 ≤ 8) {a b : Int} (a0 : 0 ≤ a) (a1 : a < vA s 96 2) (b0 : 0 ≤ b) (b1 : b < vA s 96 2) (hab : a ≠ b) (c1 : vA s 98 a = 0) (c2 : 3 < vA s 98 b) : OkI X 4 170 [.ref 95, .int (iI a), .int (iI b)] s (fun z u => z = (kinV (mv s 98 0 (vA s 96 2)) a b) a 1 ∧ MOpH (remS s) u 98 (vA s 96 2) (kinV (mv s 98 0 (vA s 96 2)) a b) (vA s 98 32)) := by
  refine Ok.of (r := vm_m170) (ls := [some (.ref 95), some (.int (iI a)), some (.int (iI b))]) rfl (Nat.le_of_ble_eq_true rfl) rfl (fun d hd => ?_)
  obtain ⟨a1x, a2, a3, a4, a5, a6, a7, a8⟩ := id hT
  have e98 : ∀ z, vA (remS s) 98 z = vA s 98 z := fun z => rem_A (by omega) z
  have e96 : ∀ z, vA (remS s) 96 z = vA s 96 z := fun z => rem_A (by omega) z
  refine Gs_aload_n p170_0 rfl rfl ?_
  refine Gs_iload_n p170_1 rfl rfl ?_
  refine Gs_callV1I p170_2 (by rfl) (by rfl) (by first | rfl | assumption | exact (show isTale _ from by assumption).1 | exact (show isCamp _ _ from by assumption).1 | exact (show isRow _ _ from by assumption).1) (Nat.le_of_ble_eq_true rfl) (by decide) (c_misCompany hT ⟨by omega, by omega⟩) (by omega) ?_
  refine Gs_ifb_eq (tgt := 21) p170_5 (by rfl) (fun h5 => ?_) (fun h5 => ?_)
  · refine Gs_iconst p170_21 ?_
    refine Gs_iret p170_22 rfl ⟨_, rfl, ?_⟩
    exfalso; omega
  · refine Gs_aload_n p170_8 rfl rfl ?_
    refine Gs_iload_n p170_9 rfl rfl ?_
    refine Gs_callV1I p170_10 (by rfl) (by rfl) (by first | rfl | assumption | exact (show isTale _ from by assumption).1 | exact (show isCamp _ _ from by assumption).1 | exact (show isRow _ _ from by assumption).1) (Nat.le_of_ble_eq_true rfl) (by decide) (c_misCompany hT ⟨by omega, by omega⟩) (by omega) ?_
    refine Gs_ifb_eq (tgt := 21) p170_13 (by rfl) (fun h13 => ?_) (fun h13 => ?_)
    · refine Gs_iconst p170_21 ?_
      refine Gs_iret p170_22 rfl ⟨_, rfl, ?_⟩
      exfalso; omega
    · refine Gs_iload_n p170_16 rfl rfl ?_
      refine Gs_iload_n p170_17 rfl rfl ?_
      refine Gs_icmp_ne (tgt := 23) p170_18 (by rfl) (by first | assumption | exact ⟨by omega, by omega⟩ | (split <;> exact ⟨by omega, by omega⟩)) (by first | assumption | exact ⟨by omega, by omega⟩ | (split <;> exact ⟨by omega, by omega⟩)) (fun h18 => ?_) (fun h18 => ?_)
      · refine Gs_aload_n p170_23 rfl rfl ?_
        refine Gs_getR p170_24 (by first | rfl | assumption | exact (show isTale _ from by assumption).1 | exact (show isCamp _ _ from by assumption).1 | exact (show isRow _ _ from by assumption).1) (by rfl) ?_
        refine Gs_iload_n p170_27 rfl rfl ?_
        refine Gs_iload_n p170_28 rfl rfl ?_
        refine Gs_callS3I p170_29 (by rfl) (Nat.le_of_ble_eq_true rfl) (by decide) (c_mayLight isA98 hm (by omega) a0 a1 b0 b1) (by omega) ?_
        refine Gs_ifb_ne (tgt := 38) p170_32 (by rfl) (fun h32 => ?_) (fun h32 => ?_)
        · refine Gs_aload_n p170_38 rfl rfl ?_
          refine Gs_callV0W p170_39 (by rfl) (by rfl) (by first | rfl | assumption | exact (show isTale _ from by assumption).1 | exact (show isCamp _ _ from by assumption).1 | exact (show isRow _ _ from by assumption).1) (Nat.le_of_ble_eq_true rfl) (by decide) (c_remember hu.1 hu.2) (by omega) ?_
          refine Gs_aload_n p170_42 rfl rfl ?_
          refine Gs_getR p170_43 (by first | rfl | assumption | exact (show isTale _ from by assumption).1 | exact (show isCamp _ _ from by assumption).1 | exact (show isRow _ _ from by assumption).1) (by rfl) ?_
          refine Gs_iload_n p170_46 rfl rfl ?_
          refine Gs_iload_n p170_47 rfl rfl ?_
          refine Gs_callS3v p170_48 (by rfl) (Nat.le_of_ble_eq_true rfl) (by decide) (c_lights isA98 (n := vA s 96 2) hm.rem (by omega) a0 a1 b0 b1) (by omega) (fun s48 h48 => ?_)
          rw [mv_rem] at h48
          refine Gs_aload_n p170_51 rfl rfl ?_
          refine Gs_getR p170_52 (by first | rfl | assumption | exact (show isTale _ from by assumption).1 | exact (show isCamp _ _ from by assumption).1 | exact (show isRow _ _ from by assumption).1) (by rfl) ?_
          refine Gs_iconst p170_55 ?_
          refine Gs_iload_n p170_56 rfl rfl ?_
          refine Gs_iadd p170_57 ?_
          refine Gs_iald p170_58 (by first | rfl | assumption | exact (show isTale _ from by assumption).1 | exact (show isCamp _ _ from by assumption).1 | exact (show isRow _ _ from by assumption).1) (by omega) (by omega) (by omega) ?_
          refine Gs_iret p170_59 rfl ⟨_, rfl, ?_⟩
          have H := h48.h
          rw [e98] at H
          exact ⟨by rw [← mv1 (n := vA s 96 2) a0 a1, h48.1], H⟩
        · refine Gs_bipush p170_35 (by decide) ?_
          refine Gs_iret p170_37 rfl ⟨_, rfl, ?_⟩
          exfalso; omega
      · refine Gs_iconst p170_21 ?_
        refine Gs_iret p170_22 rfl ⟨_, rfl, ?_⟩
        exfalso; omega

set_option maxHeartbeats 1000000 in
set_option maxRecDepth 4000 in
theorem m_light_no {X : vX} {s : St} (hT : MT s) (hm : MC s 98 (vA s 96 2)) {a b : Int} (ga : rg a) (gb : rg b) (hno : ¬ (((0 ≤ a ∧ a < vA s 96 2) ∧ (0 ≤ b ∧ b < vA s 96 2) ∧ a ≠ b) ∧ (vA s 98 a = 0 ∧ 3 < vA s 98 b))) : OkI X 4 170 [.ref 95, .int (iI a), .int (iI b)] s (Is1 (if ((0 ≤ a ∧ a < vA s 96 2) ∧ (0 ≤ b ∧ b < vA s 96 2) ∧ a ≠ b) then -2 else -1) s) := by
  refine Ok.of (r := vm_m170) (ls := [some (.ref 95), some (.int (iI a)), some (.int (iI b))]) rfl (Nat.le_of_ble_eq_true rfl) rfl (fun d hd => ?_)
  obtain ⟨a1x, a2, a3, a4, a5, a6, a7, a8⟩ := id hT
  refine Gs_aload_n p170_0 rfl rfl ?_
  refine Gs_iload_n p170_1 rfl rfl ?_
  refine Gs_callV1I p170_2 (by rfl) (by rfl) (by first | rfl | assumption | exact (show isTale _ from by assumption).1 | exact (show isCamp _ _ from by assumption).1 | exact (show isRow _ _ from by assumption).1) (Nat.le_of_ble_eq_true rfl) (by decide) (c_misCompany hT ga) (by omega) ?_
  refine Gs_ifb_eq (tgt := 21) p170_5 (by rfl) (fun h5 => ?_) (fun h5 => ?_)
  · refine Gs_iconst p170_21 ?_
    refine Gs_iret p170_22 rfl ⟨_, rfl, ?_⟩
    refine ⟨?_, rfl⟩
    first | (rw [if_neg (by omega)]; done) | (rw [if_pos (by omega)]; done)
  · refine Gs_aload_n p170_8 rfl rfl ?_
    refine Gs_iload_n p170_9 rfl rfl ?_
    refine Gs_callV1I p170_10 (by rfl) (by rfl) (by first | rfl | assumption | exact (show isTale _ from by assumption).1 | exact (show isCamp _ _ from by assumption).1 | exact (show isRow _ _ from by assumption).1) (Nat.le_of_ble_eq_true rfl) (by decide) (c_misCompany hT gb) (by omega) ?_
    refine Gs_ifb_eq (tgt := 21) p170_13 (by rfl) (fun h13 => ?_) (fun h13 => ?_)
    · refine Gs_iconst p170_21 ?_
      refine Gs_iret p170_22 rfl ⟨_, rfl, ?_⟩
      refine ⟨?_, rfl⟩
      first | (rw [if_neg (by omega)]; done) | (rw [if_pos (by omega)]; done)
    · refine Gs_iload_n p170_16 rfl rfl ?_
      refine Gs_iload_n p170_17 rfl rfl ?_
      refine Gs_icmp_ne (tgt := 23) p170_18 (by rfl) (by first | assumption | exact ⟨by omega, by omega⟩ | (split <;> exact ⟨by omega, by omega⟩)) (by first | assumption | exact ⟨by omega, by omega⟩ | (split <;> exact ⟨by omega, by omega⟩)) (fun h18 => ?_) (fun h18 => ?_)
      · refine Gs_aload_n p170_23 rfl rfl ?_
        refine Gs_getR p170_24 (by first | rfl | assumption | exact (show isTale _ from by assumption).1 | exact (show isCamp _ _ from by assumption).1 | exact (show isRow _ _ from by assumption).1) (by rfl) ?_
        refine Gs_iload_n p170_27 rfl rfl ?_
        refine Gs_iload_n p170_28 rfl rfl ?_
        refine Gs_callS3I p170_29 (by rfl) (Nat.le_of_ble_eq_true rfl) (by decide) (c_mayLight isA98 hm (by omega) (by omega) (by omega) (by omega) (by omega)) (by omega) ?_
        refine Gs_ifb_ne (tgt := 38) p170_32 (by rfl) (fun h32 => ?_) (fun h32 => ?_)
        · exfalso; omega
        · refine Gs_bipush p170_35 (by decide) ?_
          refine Gs_iret p170_37 rfl ⟨_, rfl, ?_⟩
          refine ⟨?_, rfl⟩
          first | (rw [if_neg (by omega)]; done) | (rw [if_pos (by omega)]; done)
      · refine Gs_iconst p170_21 ?_
        refine Gs_iret p170_22 rfl ⟨_, rfl, ?_⟩
        refine ⟨?_, rfl⟩
        first | (rw [if_neg (by omega)]; done) | (rw [if_pos (by omega)]; done)

theorem T_light {X : vX} {K : Int} {s : St} (hR : Rel K s) (hK : K < 512) {x1 x2 : Int} (g1 : rg x1) (g2 : rg x2) : Both X K s 102 170 [.int (iI x1), .int (iI x2)] := by
  obtain ⟨h0, h1, h2, h3, h4, h5, h6⟩ := id hR
  obtain ⟨p1, p2, p3, p4, p5⟩ := hR.ok20 hK
  have hMT := hR.MT
  by_cases c : ((0 ≤ x1 ∧ x1 < vA s 96 2) ∧ (0 ≤ x2 ∧ x2 < vA s 96 2) ∧ x1 ≠ x2) ∧ (¬ 1 ≤ cg s 14 x1 0 ∧ 4 ≤ cg s 14 x2 0)
  · obtain ⟨⟨⟨a0, a1⟩, ⟨b0, b1⟩, hab⟩, c1, c2⟩ := c
    have v0 : cv s 14 (vA s 96 2) x2 0 = cg s 14 x2 0 := cv_at b0 b1 (by omega) (by omega)
    have gg := (h4.good.kin a0 a1 b0 b1 hab (by omega)).up (show K ≤ K + 1 by omega)
    have hn := h4.1.2.1
    have hh := h4.1.2.2.2.1
    have hh2 := h4.2.2.1
    refine Both.pushed (D := 5) (D' := 4) hR hK (k_light h4.1 ⟨p1, p2, p3, p4⟩ a0 a1 b0 b1 hab c1 c2) (fun t o => ?_) ?_ gg hh (by omega) (by decide) (by decide)
    · obtain ⟨q1, q2, q3, q4, q5, q6, q7, q8, q9, q10⟩ := o.ref hR
      have e0 : vA t 98 x1 = cg s 14 x1 0 := by rw [q8, h4.v0 a0 a1 (by omega) (by omega), mi_0]
      have e2 : vA t 98 x2 = cg s 14 x2 0 := by rw [q8, h4.v0 b0 b1 (by omega) (by omega), mi_0]
      have z0 := h4.1.b a0 a1 (w := 0) (by omega) (by omega)
      have l := lwA
      have M := m_light (X := X) q1 q2 ⟨by omega, by omega⟩ a0 (by rw [q3]; exact a1) b0 (by rw [q3]; exact b1) hab (by omega) (by omega)
      rw [q3, q6, q7] at M
      exact M
    · have := (gg x1 a0 a1).1 1 (by omega) (by omega)
      have l := lwA
      exact ⟨by omega, by omega⟩
  · refine Both.q hR (k_light_no h4.1 g1 g2 c) (m_light_no hMT h4.mc g1 g2 ?_) (by decide) (by decide) rfl ?_ (Kept.rfl' s)
    · intro q
      obtain ⟨⟨⟨a0, a1⟩, ⟨b0, b1⟩, hab⟩, c1, c2⟩ := q
      refine c ⟨⟨⟨a0, a1⟩, ⟨b0, b1⟩, hab⟩, ?_, ?_⟩
      · rw [h4.v0 a0 a1 (by omega) (by omega), mi_0]; omega
      · rw [h4.v0 b0 b1 (by omega) (by omega), mi_0]; omega
    · split <;> exact ⟨by omega, by omega⟩
set_option maxHeartbeats 1000000 in
set_option maxRecDepth 4000 in
theorem k_hand {X : vX} {s : St} {n : Int} (hC : CampOk s 14 n) (hp : 0 ≤ vF s 20 1 ∧ vF s 20 1 < 100000 ∧ 0 ≤ vF s 20 2 ∧ vF s 20 2 ≤ 8) {a b : Int} (a0 : 0 ≤ a) (a1 : a < n) (b0 : 0 ≤ b) (b1 : b < n) (hab : a ≠ b) {w : Int} (h2 : 0 ≤ w) (h3 : w < 4) (c1 : 1 ≤ cg s 14 a (2 + w)) (c2 : cg s 14 b (2 + w) < 99) : OkI X 5 104 [.ref 0, .int (iI a), .int (iI b), .int (iI w)] s (fun z t => z = (movV (cv s 14 n) a b w) b (2 + w) ∧ COp (P20 s) t 14 n (movV (cv s 14 n) a b w) (vF s 14 2)) := by
  refine Ok.of (r := vm_m104) (ls := [some (.ref 0), some (.int (iI a)), some (.int (iI b)), some (.int (iI w))]) rfl (Nat.le_of_ble_eq_true rfl) rfl (fun d hd => ?_)
  have hn := hC.2.1
  refine Gs_aload_n p104_0 rfl rfl ?_
  refine Gs_iload_n p104_1 rfl rfl ?_
  refine Gs_iload_n p104_2 rfl rfl ?_
  refine Gs_callV2I p104_3 (by rfl) (by rfl) (by first | rfl | assumption | exact (show isTale _ from by assumption).1 | exact (show isCamp _ _ from by assumption).1 | exact (show isRow _ _ from by assumption).1) (Nat.le_of_ble_eq_true rfl) (by decide) (c_areTwo hC ⟨by omega, by omega⟩ ⟨by omega, by omega⟩) (by omega) ?_
  refine Gs_ifb_eq (tgt := 16) p104_6 (by rfl) (fun h6 => ?_) (fun h6 => ?_)
  · refine Gs_iconst p104_16 ?_
    refine Gs_iret p104_17 rfl ⟨_, rfl, ?_⟩
    exfalso; omega
  · refine Gs_iload_n p104_9 rfl rfl ?_
    refine Gs_callS1I p104_10 (by rfl) (Nat.le_of_ble_eq_true rfl) (by decide) (c_isWood ⟨by omega, by omega⟩) (by omega) ?_
    refine Gs_ifb_ne (tgt := 18) p104_13 (by rfl) (fun h13 => ?_) (fun h13 => ?_)
    · refine Gs_aload_n p104_18 rfl rfl ?_
      refine Gs_getR p104_19 (by first | rfl | assumption | exact (show isTale _ from by assumption).1 | exact (show isCamp _ _ from by assumption).1 | exact (show isRow _ _ from by assumption).1) (by rfl) ?_
      refine Gs_iload_n p104_22 rfl rfl ?_
      refine Gs_iload_n p104_23 rfl rfl ?_
      refine Gs_iload_n p104_24 rfl rfl ?_
      refine Gs_callV3I p104_25 (by rfl) (by rfl) (by first | rfl | assumption | exact (show isTale _ from by assumption).1 | exact (show isCamp _ _ from by assumption).1 | exact (show isRow _ _ from by assumption).1) (Nat.le_of_ble_eq_true rfl) (by decide) (c_canMove camp14 hC a0 a1 b0 b1 h2 h3) (by omega) ?_
      refine Gs_ifb_ne (tgt := 34) p104_28 (by rfl) (fun h28 => ?_) (fun h28 => ?_)
      · refine Gs_aload_n p104_34 rfl rfl ?_
        refine Gs_getR p104_35 (by first | rfl | assumption | exact (show isTale _ from by assumption).1 | exact (show isCamp _ _ from by assumption).1 | exact (show isRow _ _ from by assumption).1) (by rfl) ?_
        refine Gs_aload_n p104_38 rfl rfl ?_
        refine Gs_getR p104_39 (by first | rfl | assumption | exact (show isTale _ from by assumption).1 | exact (show isCamp _ _ from by assumption).1 | exact (show isRow _ _ from by assumption).1) (by rfl) ?_
        refine Gs_callV1W p104_42 (by rfl) (by rfl) (by first | rfl | assumption | exact (show isTale _ from by assumption).1 | exact (show isCamp _ _ from by assumption).1 | exact (show isRow _ _ from by assumption).1) (Nat.le_of_ble_eq_true rfl) (by decide) (c_push shelf20 camp14 hC (by omega) hp.1 hp.2.1 hp.2.2.1 (by omega)) (by omega) ?_
        refine Gs_aload_n p104_45 rfl rfl ?_
        refine Gs_getR p104_46 (by first | rfl | assumption | exact (show isTale _ from by assumption).1 | exact (show isCamp _ _ from by assumption).1 | exact (show isRow _ _ from by assumption).1) (by rfl) ?_
        refine Gs_iload_n p104_49 rfl rfl ?_
        refine Gs_iload_n p104_50 rfl rfl ?_
        refine Gs_iload_n p104_51 rfl rfl ?_
        refine Gs_callV3v p104_52 (by rfl) (by rfl) (by rfl) (Nat.le_of_ble_eq_true rfl) (by decide) (c_move camp14 hC.P a0 a1 b0 b1 h2 h3 hab (by rw [cg_P]; exact c1) (by rw [cg_P]; exact c2)) (by omega) (fun s52 h52 => ?_)
        rw [cv_P, show vF (P20 s) 14 2 = vF s 14 2 from push20_F (by omega)] at h52
        refine Gs_aload_n p104_55 rfl rfl ?_
        refine Gs_getR p104_56 (by first | rfl | assumption | exact (show isTale _ from by assumption).1 | exact (show isCamp _ _ from by assumption).1 | exact (show isRow _ _ from by assumption).1) (by rfl) ?_
        refine Gs_iload_n p104_59 rfl rfl ?_
        refine Gs_iconst p104_60 ?_
        refine Gs_iload_n p104_61 rfl rfl ?_
        refine Gs_iadd p104_62 ?_
        refine Gs_callV2I p104_63 (by rfl) (by rfl) (by first | rfl | assumption | exact (show isTale _ from by assumption).1 | exact (show isCamp _ _ from by assumption).1 | exact (show isRow _ _ from by assumption).1) (Nat.le_of_ble_eq_true rfl) (by decide) (c_Cget camp14 h52.2.2.2.2 b0 b1 (by omega) (by omega)) (by omega) ?_
        refine Gs_iret p104_66 rfl ⟨_, rfl, ?_⟩
        exact ⟨h52.at b0 b1 (by omega) (by omega), h52⟩
      · refine Gs_bipush p104_31 (by decide) ?_
        refine Gs_iret p104_33 rfl ⟨_, rfl, ?_⟩
        exfalso; omega
    · refine Gs_iconst p104_16 ?_
      refine Gs_iret p104_17 rfl ⟨_, rfl, ?_⟩
      exfalso; omega

set_option maxHeartbeats 1000000 in
set_option maxRecDepth 4000 in
theorem k_hand_no {X : vX} {s : St} {n : Int} (hC : CampOk s 14 n) {a b : Int} (ga : rg a) (gb : rg b) {w : Int} (hw : rg w) (hno : ¬ ((((0 ≤ a ∧ a < n) ∧ (0 ≤ b ∧ b < n) ∧ a ≠ b) ∧ (0 ≤ w ∧ w < 4)) ∧ (1 ≤ cg s 14 a (2 + w) ∧ cg s 14 b (2 + w) < 99))) : OkI X 5 104 [.ref 0, .int (iI a), .int (iI b), .int (iI w)] s (Is1 (if ((0 ≤ a ∧ a < n) ∧ (0 ≤ b ∧ b < n) ∧ a ≠ b) ∧ (0 ≤ w ∧ w < 4) then -2 else -1) s) := by
  refine Ok.of (r := vm_m104) (ls := [some (.ref 0), some (.int (iI a)), some (.int (iI b)), some (.int (iI w))]) rfl (Nat.le_of_ble_eq_true rfl) rfl (fun d hd => ?_)
  refine Gs_aload_n p104_0 rfl rfl ?_
  refine Gs_iload_n p104_1 rfl rfl ?_
  refine Gs_iload_n p104_2 rfl rfl ?_
  refine Gs_callV2I p104_3 (by rfl) (by rfl) (by first | rfl | assumption | exact (show isTale _ from by assumption).1 | exact (show isCamp _ _ from by assumption).1 | exact (show isRow _ _ from by assumption).1) (Nat.le_of_ble_eq_true rfl) (by decide) (c_areTwo hC ga gb) (by omega) ?_
  refine Gs_ifb_eq (tgt := 16) p104_6 (by rfl) (fun h6 => ?_) (fun h6 => ?_)
  · refine Gs_iconst p104_16 ?_
    refine Gs_iret p104_17 rfl ⟨_, rfl, ?_⟩
    refine ⟨?_, rfl⟩
    first | (rw [if_neg (by omega)]; done) | (rw [if_pos (by omega)]; done)
  · refine Gs_iload_n p104_9 rfl rfl ?_
    refine Gs_callS1I p104_10 (by rfl) (Nat.le_of_ble_eq_true rfl) (by decide) (c_isWood hw) (by omega) ?_
    refine Gs_ifb_ne (tgt := 18) p104_13 (by rfl) (fun h13 => ?_) (fun h13 => ?_)
    · refine Gs_aload_n p104_18 rfl rfl ?_
      refine Gs_getR p104_19 (by first | rfl | assumption | exact (show isTale _ from by assumption).1 | exact (show isCamp _ _ from by assumption).1 | exact (show isRow _ _ from by assumption).1) (by rfl) ?_
      refine Gs_iload_n p104_22 rfl rfl ?_
      refine Gs_iload_n p104_23 rfl rfl ?_
      refine Gs_iload_n p104_24 rfl rfl ?_
      refine Gs_callV3I p104_25 (by rfl) (by rfl) (by first | rfl | assumption | exact (show isTale _ from by assumption).1 | exact (show isCamp _ _ from by assumption).1 | exact (show isRow _ _ from by assumption).1) (Nat.le_of_ble_eq_true rfl) (by decide) (c_canMove camp14 hC (by omega) (by omega) (by omega) (by omega) (by omega) (by omega)) (by omega) ?_
      refine Gs_ifb_ne (tgt := 34) p104_28 (by rfl) (fun h28 => ?_) (fun h28 => ?_)
      · exfalso; omega
      · refine Gs_bipush p104_31 (by decide) ?_
        refine Gs_iret p104_33 rfl ⟨_, rfl, ?_⟩
        refine ⟨?_, rfl⟩
        first | (rw [if_neg (by omega)]; done) | (rw [if_pos (by omega)]; done)
    · refine Gs_iconst p104_16 ?_
      refine Gs_iret p104_17 rfl ⟨_, rfl, ?_⟩
      refine ⟨?_, rfl⟩
      first | (rw [if_neg (by omega)]; done) | (rw [if_pos (by omega)]; done)

set_option maxHeartbeats 1000000 in
set_option maxRecDepth 4000 in
theorem m_hand {X : vX} {s : St} (hT : MT s) (hm : MC s 98 (vA s 96 2)) (hu : 0 ≤ vF s 95 5 ∧ vF s 95 5 ≤ 8) {a b : Int} (a0 : 0 ≤ a) (a1 : a < vA s 96 2) (b0 : 0 ≤ b) (b1 : b < vA s 96 2) (hab : a ≠ b) {w : Int} (h2 : 0 ≤ w) (h3 : w < 4) (c1 : 0 < vA s 98 (8 + 4 * a + w)) (c2 : vA s 98 (8 + 4 * b + w) < 99) : OkI X 4 173 [.ref 95, .int (iI a), .int (iI b), .int (iI w)] s (fun z u => z = (movV (mv s 98 0 (vA s 96 2)) a b w) b (2 + w) ∧ MOpH (remS s) u 98 (vA s 96 2) (movV (mv s 98 0 (vA s 96 2)) a b w) (vA s 98 32)) := by
  refine Ok.of (r := vm_m173) (ls := [some (.ref 95), some (.int (iI a)), some (.int (iI b)), some (.int (iI w))]) rfl (Nat.le_of_ble_eq_true rfl) rfl (fun d hd => ?_)
  obtain ⟨a1x, a2, a3, a4, a5, a6, a7, a8⟩ := id hT
  have e98 : ∀ z, vA (remS s) 98 z = vA s 98 z := fun z => rem_A (by omega) z
  have e96 : ∀ z, vA (remS s) 96 z = vA s 96 z := fun z => rem_A (by omega) z
  refine Gs_aload_n p173_0 rfl rfl ?_
  refine Gs_iload_n p173_1 rfl rfl ?_
  refine Gs_callV1I p173_2 (by rfl) (by rfl) (by first | rfl | assumption | exact (show isTale _ from by assumption).1 | exact (show isCamp _ _ from by assumption).1 | exact (show isRow _ _ from by assumption).1) (Nat.le_of_ble_eq_true rfl) (by decide) (c_misCompany hT ⟨by omega, by omega⟩) (by omega) ?_
  refine Gs_ifb_eq (tgt := 28) p173_5 (by rfl) (fun h5 => ?_) (fun h5 => ?_)
  · refine Gs_iconst p173_28 ?_
    refine Gs_iret p173_29 rfl ⟨_, rfl, ?_⟩
    exfalso; omega
  · refine Gs_aload_n p173_8 rfl rfl ?_
    refine Gs_iload_n p173_9 rfl rfl ?_
    refine Gs_callV1I p173_10 (by rfl) (by rfl) (by first | rfl | assumption | exact (show isTale _ from by assumption).1 | exact (show isCamp _ _ from by assumption).1 | exact (show isRow _ _ from by assumption).1) (Nat.le_of_ble_eq_true rfl) (by decide) (c_misCompany hT ⟨by omega, by omega⟩) (by omega) ?_
    refine Gs_ifb_eq (tgt := 28) p173_13 (by rfl) (fun h13 => ?_) (fun h13 => ?_)
    · refine Gs_iconst p173_28 ?_
      refine Gs_iret p173_29 rfl ⟨_, rfl, ?_⟩
      exfalso; omega
    · refine Gs_iload_n p173_16 rfl rfl ?_
      refine Gs_iload_n p173_17 rfl rfl ?_
      refine Gs_icmp_eq (tgt := 28) p173_18 (by rfl) (by first | assumption | exact ⟨by omega, by omega⟩ | (split <;> exact ⟨by omega, by omega⟩)) (by first | assumption | exact ⟨by omega, by omega⟩ | (split <;> exact ⟨by omega, by omega⟩)) (fun h18 => ?_) (fun h18 => ?_)
      · refine Gs_iconst p173_28 ?_
        refine Gs_iret p173_29 rfl ⟨_, rfl, ?_⟩
        exfalso; omega
      · refine Gs_iload_n p173_21 rfl rfl ?_
        refine Gs_callS1I p173_22 (by rfl) (Nat.le_of_ble_eq_true rfl) (by decide) (c_misWood ⟨by omega, by omega⟩) (by omega) ?_
        refine Gs_ifb_ne (tgt := 30) p173_25 (by rfl) (fun h25 => ?_) (fun h25 => ?_)
        · refine Gs_aload_n p173_30 rfl rfl ?_
          refine Gs_iload_n p173_31 rfl rfl ?_
          refine Gs_iload_n p173_32 rfl rfl ?_
          refine Gs_iload_n p173_33 rfl rfl ?_
          refine Gs_callV3I p173_34 (by rfl) (by rfl) (by first | rfl | assumption | exact (show isTale _ from by assumption).1 | exact (show isCamp _ _ from by assumption).1 | exact (show isRow _ _ from by assumption).1) (Nat.le_of_ble_eq_true rfl) (by decide) (c_mayHand hm (by omega) a0 a1 b0 b1 h2 h3) (by omega) ?_
          refine Gs_ifb_ne (tgt := 43) p173_37 (by rfl) (fun h37 => ?_) (fun h37 => ?_)
          · refine Gs_aload_n p173_43 rfl rfl ?_
            refine Gs_callV0W p173_44 (by rfl) (by rfl) (by first | rfl | assumption | exact (show isTale _ from by assumption).1 | exact (show isCamp _ _ from by assumption).1 | exact (show isRow _ _ from by assumption).1) (Nat.le_of_ble_eq_true rfl) (by decide) (c_remember hu.1 hu.2) (by omega) ?_
            refine Gs_aload_n p173_47 rfl rfl ?_
            refine Gs_getR p173_48 (by first | rfl | assumption | exact (show isTale _ from by assumption).1 | exact (show isCamp _ _ from by assumption).1 | exact (show isRow _ _ from by assumption).1) (by rfl) ?_
            refine Gs_bipush p173_51 (by decide) ?_
            refine Gs_iconst p173_53 ?_
            refine Gs_iload_n p173_54 rfl rfl ?_
            refine Gs_imul p173_55 ?_
            refine Gs_iadd p173_56 ?_
            refine Gs_iload_n p173_57 rfl rfl ?_
            refine Gs_iadd p173_58 ?_
            refine Gs_dup2 p173_59 rfl rfl ?_
            refine Gs_iald p173_60 (by first | rfl | assumption | exact (show isTale _ from by assumption).1 | exact (show isCamp _ _ from by assumption).1 | exact (show isRow _ _ from by assumption).1) (by omega) (by omega) (by omega) ?_
            refine Gs_iconst p173_61 ?_
            refine Gs_isub p173_62 ?_
            refine Gs_iast p173_63 (by first | rfl | assumption | exact (show isTale _ from by assumption).1 | exact (show isCamp _ _ from by assumption).1 | exact (show isRow _ _ from by assumption).1) (by omega) (by omega) (by omega) ?_
            refine Gs_aload_n p173_64 rfl rfl ?_
            refine Gs_getR p173_65 (by first | rfl | assumption | exact (show isTale _ from by assumption).1 | exact (show isCamp _ _ from by assumption).1 | exact (show isRow _ _ from by assumption).1) (by rfl) ?_
            refine Gs_bipush p173_68 (by decide) ?_
            refine Gs_iconst p173_70 ?_
            refine Gs_iload_n p173_71 rfl rfl ?_
            refine Gs_imul p173_72 ?_
            refine Gs_iadd p173_73 ?_
            refine Gs_iload_n p173_74 rfl rfl ?_
            refine Gs_iadd p173_75 ?_
            refine Gs_dup2 p173_76 rfl rfl ?_
            refine Gs_iald p173_77 (by first | rfl | assumption | exact (show isTale _ from by assumption).1 | exact (show isCamp _ _ from by assumption).1 | exact (show isRow _ _ from by assumption).1) (by omega) (by omega) (by omega) ?_
            rw [show vA (sA (remS s) 98 (8 + 4 * a + w) (vA (remS s) 98 (8 + 4 * a + w) - 1)) 98 (8 + 4 * b + w) = vA s 98 (8 + 4 * b + w) from by rw [vA_sA, if_neg (by omega), e98], e98]
            refine Gs_iconst p173_78 ?_
            refine Gs_iadd p173_79 ?_
            refine Gs_iast p173_80 (by first | rfl | assumption | exact (show isTale _ from by assumption).1 | exact (show isCamp _ _ from by assumption).1 | exact (show isRow _ _ from by assumption).1) (by omega) (by omega) (by omega) ?_
            refine Gs_aload_n p173_81 rfl rfl ?_
            refine Gs_getR p173_82 (by first | rfl | assumption | exact (show isTale _ from by assumption).1 | exact (show isCamp _ _ from by assumption).1 | exact (show isRow _ _ from by assumption).1) (by rfl) ?_
            refine Gs_bipush p173_85 (by decide) ?_
            refine Gs_iconst p173_87 ?_
            refine Gs_iload_n p173_88 rfl rfl ?_
            refine Gs_imul p173_89 ?_
            refine Gs_iadd p173_90 ?_
            refine Gs_iload_n p173_91 rfl rfl ?_
            refine Gs_iadd p173_92 ?_
            refine Gs_iald p173_93 (by first | rfl | assumption | exact (show isTale _ from by assumption).1 | exact (show isCamp _ _ from by assumption).1 | exact (show isRow _ _ from by assumption).1) (by omega) (by omega) (by omega) ?_
            refine Gs_iret p173_94 rfl ⟨_, rfl, ?_⟩
            have M := ((MOp.refl (remS s) 98 (vA s 96 2)).w a0 a1 (by omega) (w := 2 + w) (v := vA s 98 (8 + 4 * a + w) - 1) (i := 8 + 4 * a + w) (by omega) (by omega) (mi_2 h2 h3).symm).w b0 b1 (by omega) (w := 2 + w) (v := vA s 98 (8 + 4 * b + w) + 1) (i := 8 + 4 * b + w) (by omega) (by omega) (mi_2 h2 h3).symm
            have M' := M.eq (show _ = movV (mv s 98 0 (vA s 96 2)) a b w by unfold movV; rw [mv_rem, mv2 a0 a1 h2 h3, mv2 b0 b1 h2 h3])
            have H := M'.h
            rw [e98] at H
            refine ⟨?_, H⟩
            rw [← mv2 (n := vA s 96 2) b0 b1 h2 h3, M'.1]
          · refine Gs_bipush p173_40 (by decide) ?_
            refine Gs_iret p173_42 rfl ⟨_, rfl, ?_⟩
            exfalso; omega
        · refine Gs_iconst p173_28 ?_
          refine Gs_iret p173_29 rfl ⟨_, rfl, ?_⟩
          exfalso; omega

set_option maxHeartbeats 1000000 in
set_option maxRecDepth 4000 in
theorem m_hand_no {X : vX} {s : St} (hT : MT s) (hm : MC s 98 (vA s 96 2)) {a b : Int} (ga : rg a) (gb : rg b) {w : Int} (hw : rg w) (hno : ¬ ((((0 ≤ a ∧ a < vA s 96 2) ∧ (0 ≤ b ∧ b < vA s 96 2) ∧ a ≠ b) ∧ (0 ≤ w ∧ w < 4)) ∧ (0 < vA s 98 (8 + 4 * a + w) ∧ vA s 98 (8 + 4 * b + w) < 99))) : OkI X 4 173 [.ref 95, .int (iI a), .int (iI b), .int (iI w)] s (Is1 (if ((0 ≤ a ∧ a < vA s 96 2) ∧ (0 ≤ b ∧ b < vA s 96 2) ∧ a ≠ b) ∧ (0 ≤ w ∧ w < 4) then -2 else -1) s) := by
  refine Ok.of (r := vm_m173) (ls := [some (.ref 95), some (.int (iI a)), some (.int (iI b)), some (.int (iI w))]) rfl (Nat.le_of_ble_eq_true rfl) rfl (fun d hd => ?_)
  obtain ⟨a1x, a2, a3, a4, a5, a6, a7, a8⟩ := id hT
  refine Gs_aload_n p173_0 rfl rfl ?_
  refine Gs_iload_n p173_1 rfl rfl ?_
  refine Gs_callV1I p173_2 (by rfl) (by rfl) (by first | rfl | assumption | exact (show isTale _ from by assumption).1 | exact (show isCamp _ _ from by assumption).1 | exact (show isRow _ _ from by assumption).1) (Nat.le_of_ble_eq_true rfl) (by decide) (c_misCompany hT ga) (by omega) ?_
  refine Gs_ifb_eq (tgt := 28) p173_5 (by rfl) (fun h5 => ?_) (fun h5 => ?_)
  · refine Gs_iconst p173_28 ?_
    refine Gs_iret p173_29 rfl ⟨_, rfl, ?_⟩
    refine ⟨?_, rfl⟩
    first | (rw [if_neg (by omega)]; done) | (rw [if_pos (by omega)]; done)
  · refine Gs_aload_n p173_8 rfl rfl ?_
    refine Gs_iload_n p173_9 rfl rfl ?_
    refine Gs_callV1I p173_10 (by rfl) (by rfl) (by first | rfl | assumption | exact (show isTale _ from by assumption).1 | exact (show isCamp _ _ from by assumption).1 | exact (show isRow _ _ from by assumption).1) (Nat.le_of_ble_eq_true rfl) (by decide) (c_misCompany hT gb) (by omega) ?_
    refine Gs_ifb_eq (tgt := 28) p173_13 (by rfl) (fun h13 => ?_) (fun h13 => ?_)
    · refine Gs_iconst p173_28 ?_
      refine Gs_iret p173_29 rfl ⟨_, rfl, ?_⟩
      refine ⟨?_, rfl⟩
      first | (rw [if_neg (by omega)]; done) | (rw [if_pos (by omega)]; done)
    · refine Gs_iload_n p173_16 rfl rfl ?_
      refine Gs_iload_n p173_17 rfl rfl ?_
      refine Gs_icmp_eq (tgt := 28) p173_18 (by rfl) (by first | assumption | exact ⟨by omega, by omega⟩ | (split <;> exact ⟨by omega, by omega⟩)) (by first | assumption | exact ⟨by omega, by omega⟩ | (split <;> exact ⟨by omega, by omega⟩)) (fun h18 => ?_) (fun h18 => ?_)
      · refine Gs_iconst p173_28 ?_
        refine Gs_iret p173_29 rfl ⟨_, rfl, ?_⟩
        refine ⟨?_, rfl⟩
        first | (rw [if_neg (by omega)]; done) | (rw [if_pos (by omega)]; done)
      · refine Gs_iload_n p173_21 rfl rfl ?_
        refine Gs_callS1I p173_22 (by rfl) (Nat.le_of_ble_eq_true rfl) (by decide) (c_misWood hw) (by omega) ?_
        refine Gs_ifb_ne (tgt := 30) p173_25 (by rfl) (fun h25 => ?_) (fun h25 => ?_)
        · refine Gs_aload_n p173_30 rfl rfl ?_
          refine Gs_iload_n p173_31 rfl rfl ?_
          refine Gs_iload_n p173_32 rfl rfl ?_
          refine Gs_iload_n p173_33 rfl rfl ?_
          refine Gs_callV3I p173_34 (by rfl) (by rfl) (by first | rfl | assumption | exact (show isTale _ from by assumption).1 | exact (show isCamp _ _ from by assumption).1 | exact (show isRow _ _ from by assumption).1) (Nat.le_of_ble_eq_true rfl) (by decide) (c_mayHand hm (by omega) (by omega) (by omega) (by omega) (by omega) (by omega) (by omega)) (by omega) ?_
          refine Gs_ifb_ne (tgt := 43) p173_37 (by rfl) (fun h37 => ?_) (fun h37 => ?_)
          · exfalso; omega
          · refine Gs_bipush p173_40 (by decide) ?_
            refine Gs_iret p173_42 rfl ⟨_, rfl, ?_⟩
            refine ⟨?_, rfl⟩
            first | (rw [if_neg (by omega)]; done) | (rw [if_pos (by omega)]; done)
        · refine Gs_iconst p173_28 ?_
          refine Gs_iret p173_29 rfl ⟨_, rfl, ?_⟩
          refine ⟨?_, rfl⟩
          first | (rw [if_neg (by omega)]; done) | (rw [if_pos (by omega)]; done)

theorem T_hand {X : vX} {K : Int} {s : St} (hR : Rel K s) (hK : K < 512) {x1 x2 x3 : Int} (g1 : rg x1) (g2 : rg x2) (g3 : rg x3) : Both X K s 104 173 [.int (iI x1), .int (iI x2), .int (iI x3)] := by
  obtain ⟨h0, h1, h2, h3, h4, h5, h6⟩ := id hR
  obtain ⟨p1, p2, p3, p4, p5⟩ := hR.ok20 hK
  have hMT := hR.MT
  by_cases c : (((0 ≤ x1 ∧ x1 < vA s 96 2) ∧ (0 ≤ x2 ∧ x2 < vA s 96 2) ∧ x1 ≠ x2) ∧ (0 ≤ x3 ∧ x3 < 4)) ∧ (1 ≤ cg s 14 x1 (2 + x3) ∧ cg s 14 x2 (2 + x3) < 99)
  · obtain ⟨⟨⟨⟨a0, a1⟩, ⟨b0, b1⟩, hab⟩, w0, w1⟩, c1, c2⟩ := c
    have v1 : cv s 14 (vA s 96 2) x1 (2 + x3) = cg s 14 x1 (2 + x3) := cv_at a0 a1 (by omega) (by omega)
    have v2 : cv s 14 (vA s 96 2) x2 (2 + x3) = cg s 14 x2 (2 + x3) := cv_at b0 b1 (by omega) (by omega)
    have gg := (h4.good.mov a0 a1 b0 b1 hab w0 w1 (by omega) (by omega)).up (show K ≤ K + 1 by omega)
    have hn := h4.1.2.1
    have hh := h4.1.2.2.2.1
    have hh2 := h4.2.2.1
    refine Both.pushed (D := 5) (D' := 4) hR hK (k_hand h4.1 ⟨p1, p2, p3, p4⟩ a0 a1 b0 b1 hab w0 w1 c1 c2) (fun t o => ?_) ?_ gg hh (by omega) (by decide) (by decide)
    · obtain ⟨q1, q2, q3, q4, q5, q6, q7, q8, q9, q10⟩ := o.ref hR
      have e0 : vA t 98 (8 + 4 * x1 + x3) = cg s 14 x1 (2 + x3) := by rw [q8, h4.v0 a0 a1 (by omega) (by omega), mi_2 w0 w1]
      have e2 : vA t 98 (8 + 4 * x2 + x3) = cg s 14 x2 (2 + x3) := by rw [q8, h4.v0 b0 b1 (by omega) (by omega), mi_2 w0 w1]
      have M := m_hand (X := X) q1 q2 ⟨by omega, by omega⟩ a0 (by rw [q3]; exact a1) b0 (by rw [q3]; exact b1) hab w0 w1 (by omega) (by omega)
      rw [q3, q6, q7] at M
      exact M
    · have := (gg x2 b0 b1).1 (2 + x3) (by omega) (by omega)
      have l := lw2 w0 w1
      exact ⟨by omega, by omega⟩
  · refine Both.q hR (k_hand_no h4.1 g1 g2 g3 c) (m_hand_no hMT h4.mc g1 g2 g3 ?_) (by decide) (by decide) rfl ?_ (Kept.rfl' s)
    · intro q
      obtain ⟨⟨⟨⟨a0, a1⟩, ⟨b0, b1⟩, hab⟩, w0, w1⟩, c1, c2⟩ := q
      refine c ⟨⟨⟨⟨a0, a1⟩, ⟨b0, b1⟩, hab⟩, w0, w1⟩, ?_, ?_⟩
      · rw [h4.v0 a0 a1 (by omega) (by omega), mi_2 w0 w1]; omega
      · rw [h4.v0 b0 b1 (by omega) (by omega), mi_2 w0 w1]; omega
    · split <;> exact ⟨by omega, by omega⟩