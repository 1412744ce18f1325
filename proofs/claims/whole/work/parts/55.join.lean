/-! join, pass -/
theorem Gs_top {X : vX} {d mid pc : Nat} {ls : vm_L} {st : List Value} {s : St} {Q : Option Value → St → Prop} {z' : Int} (z : Int) (e : z' = z) (k : Gs X d mid pc ls (.int (iI z) :: st) s Q) : Gs X d mid pc ls (.int (iI z') :: st) s Q := e ▸ k
theorem mn_if {x y : Int} : mn x y = if y < x then y else x := rfl
set_option maxHeartbeats 1000000 in
set_option maxRecDepth 4000 in
theorem k_join {X : vX} {s : St} {n : Int} (hC : CampOk s 14 n) (hp : 0 ≤ vF s 20 1 ∧ vF s 20 1 < 100000 ∧ 0 ≤ vF s 20 2 ∧ vF s 20 2 ≤ 8) {a b : Int} (a0 : 0 ≤ a) (a1 : a < n) (b0 : 0 ≤ b) (b1 : b < n) (hab : a ≠ b) (c1 : 1 ≤ cg s 14 a 0) (c2 : 1 ≤ cg s 14 b 0) : OkI X 5 103 [.ref 0, .int (iI a), .int (iI b)] s (fun z t => z = (merV (cv s 14 n) a b) a 1 ∧ COp (P20 s) t 14 n (merV (cv s 14 n) a b) (vF s 14 2)) := by
  refine Ok.of (r := vm_m103) (ls := [some (.ref 0), some (.int (iI a)), some (.int (iI b))]) rfl (Nat.le_of_ble_eq_true rfl) rfl (fun d hd => ?_)
  have hn := hC.2.1
  refine Gs_aload_n p103_0 rfl rfl ?_
  refine Gs_iload_n p103_1 rfl rfl ?_
  refine Gs_iload_n p103_2 rfl rfl ?_
  refine Gs_callV2I p103_3 (by rfl) (by rfl) (by first | rfl | assumption | exact (show isTale _ from by assumption).1 | exact (show isCamp _ _ from by assumption).1 | exact (show isRow _ _ from by assumption).1) (Nat.le_of_ble_eq_true rfl) (by decide) (c_areTwo hC ⟨by omega, by omega⟩ ⟨by omega, by omega⟩) (by omega) ?_
  refine Gs_ifb_ne (tgt := 11) p103_6 (by rfl) (fun h6 => ?_) (fun h6 => ?_)
  · refine Gs_aload_n p103_11 rfl rfl ?_
    refine Gs_getR p103_12 (by first | rfl | assumption | exact (show isTale _ from by assumption).1 | exact (show isCamp _ _ from by assumption).1 | exact (show isRow _ _ from by assumption).1) (by rfl) ?_
    refine Gs_iload_n p103_15 rfl rfl ?_
    refine Gs_callV1I p103_16 (by rfl) (by rfl) (by first | rfl | assumption | exact (show isTale _ from by assumption).1 | exact (show isCamp _ _ from by assumption).1 | exact (show isRow _ _ from by assumption).1) (Nat.le_of_ble_eq_true rfl) (by decide) (c_isIn camp14 hC a0 a1) (by omega) ?_
    refine Gs_ifb_eq (tgt := 33) p103_19 (by rfl) (fun h19 => ?_) (fun h19 => ?_)
    · refine Gs_bipush p103_33 (by decide) ?_
      refine Gs_iret p103_35 rfl ⟨_, rfl, ?_⟩
      exfalso; omega
    · refine Gs_aload_n p103_22 rfl rfl ?_
      refine Gs_getR p103_23 (by first | rfl | assumption | exact (show isTale _ from by assumption).1 | exact (show isCamp _ _ from by assumption).1 | exact (show isRow _ _ from by assumption).1) (by rfl) ?_
      refine Gs_iload_n p103_26 rfl rfl ?_
      refine Gs_callV1I p103_27 (by rfl) (by rfl) (by first | rfl | assumption | exact (show isTale _ from by assumption).1 | exact (show isCamp _ _ from by assumption).1 | exact (show isRow _ _ from by assumption).1) (Nat.le_of_ble_eq_true rfl) (by decide) (c_isIn camp14 hC b0 b1) (by omega) ?_
      refine Gs_ifb_ne (tgt := 36) p103_30 (by rfl) (fun h30 => ?_) (fun h30 => ?_)
      · refine Gs_aload_n p103_36 rfl rfl ?_
        refine Gs_getR p103_37 (by first | rfl | assumption | exact (show isTale _ from by assumption).1 | exact (show isCamp _ _ from by assumption).1 | exact (show isRow _ _ from by assumption).1) (by rfl) ?_
        refine Gs_aload_n p103_40 rfl rfl ?_
        refine Gs_getR p103_41 (by first | rfl | assumption | exact (show isTale _ from by assumption).1 | exact (show isCamp _ _ from by assumption).1 | exact (show isRow _ _ from by assumption).1) (by rfl) ?_
        refine Gs_callV1W p103_44 (by rfl) (by rfl) (by first | rfl | assumption | exact (show isTale _ from by assumption).1 | exact (show isCamp _ _ from by assumption).1 | exact (show isRow _ _ from by assumption).1) (Nat.le_of_ble_eq_true rfl) (by decide) (c_push shelf20 camp14 hC (by omega) hp.1 hp.2.1 hp.2.2.1 (by omega)) (by omega) ?_
        refine Gs_aload_n p103_47 rfl rfl ?_
        refine Gs_getR p103_48 (by first | rfl | assumption | exact (show isTale _ from by assumption).1 | exact (show isCamp _ _ from by assumption).1 | exact (show isRow _ _ from by assumption).1) (by rfl) ?_
        refine Gs_iload_n p103_51 rfl rfl ?_
        refine Gs_iload_n p103_52 rfl rfl ?_
        refine Gs_callV2v p103_53 (by rfl) (by rfl) (by rfl) (Nat.le_of_ble_eq_true rfl) (by decide) (c_merge camp14 hC.P a0 a1 b0 b1 hab) (by omega) (fun s53 h53 => ?_)
        rw [cv_P, show vF (P20 s) 14 2 = vF s 14 2 from push20_F (by omega)] at h53
        refine Gs_aload_n p103_56 rfl rfl ?_
        refine Gs_getR p103_57 (by first | rfl | assumption | exact (show isTale _ from by assumption).1 | exact (show isCamp _ _ from by assumption).1 | exact (show isRow _ _ from by assumption).1) (by rfl) ?_
        refine Gs_iload_n p103_60 rfl rfl ?_
        refine Gs_iconst p103_61 ?_
        refine Gs_callV2I p103_62 (by rfl) (by rfl) (by first | rfl | assumption | exact (show isTale _ from by assumption).1 | exact (show isCamp _ _ from by assumption).1 | exact (show isRow _ _ from by assumption).1) (Nat.le_of_ble_eq_true rfl) (by decide) (c_Cget camp14 h53.2.2.2.2 a0 a1 (by omega) (by omega)) (by omega) ?_
        refine Gs_iret p103_65 rfl ⟨_, rfl, ?_⟩
        exact ⟨h53.at a0 a1 (by omega) (by omega), h53⟩
      · refine Gs_bipush p103_33 (by decide) ?_
        refine Gs_iret p103_35 rfl ⟨_, rfl, ?_⟩
        exfalso; omega
  · refine Gs_iconst p103_9 ?_
    refine Gs_iret p103_10 rfl ⟨_, rfl, ?_⟩
    exfalso; omega

set_option maxHeartbeats 1000000 in
set_option maxRecDepth 4000 in
theorem k_join_no {X : vX} {s : St} {n : Int} (hC : CampOk s 14 n) {a b : Int} (ga : rg a) (gb : rg b) (hno : ¬ (((0 ≤ a ∧ a < n) ∧ (0 ≤ b ∧ b < n) ∧ a ≠ b) ∧ (1 ≤ cg s 14 a 0 ∧ 1 ≤ cg s 14 b 0))) : OkI X 5 103 [.ref 0, .int (iI a), .int (iI b)] s (Is1 (if ((0 ≤ a ∧ a < n) ∧ (0 ≤ b ∧ b < n) ∧ a ≠ b) then -2 else -1) s) := by
  refine Ok.of (r := vm_m103) (ls := [some (.ref 0), some (.int (iI a)), some (.int (iI b))]) rfl (Nat.le_of_ble_eq_true rfl) rfl (fun d hd => ?_)
  refine Gs_aload_n p103_0 rfl rfl ?_
  refine Gs_iload_n p103_1 rfl rfl ?_
  refine Gs_iload_n p103_2 rfl rfl ?_
  refine Gs_callV2I p103_3 (by rfl) (by rfl) (by first | rfl | assumption | exact (show isTale _ from by assumption).1 | exact (show isCamp _ _ from by assumption).1 | exact (show isRow _ _ from by assumption).1) (Nat.le_of_ble_eq_true rfl) (by decide) (c_areTwo hC ga gb) (by omega) ?_
  refine Gs_ifb_ne (tgt := 11) p103_6 (by rfl) (fun h6 => ?_) (fun h6 => ?_)
  · refine Gs_aload_n p103_11 rfl rfl ?_
    refine Gs_getR p103_12 (by first | rfl | assumption | exact (show isTale _ from by assumption).1 | exact (show isCamp _ _ from by assumption).1 | exact (show isRow _ _ from by assumption).1) (by rfl) ?_
    refine Gs_iload_n p103_15 rfl rfl ?_
    refine Gs_callV1I p103_16 (by rfl) (by rfl) (by first | rfl | assumption | exact (show isTale _ from by assumption).1 | exact (show isCamp _ _ from by assumption).1 | exact (show isRow _ _ from by assumption).1) (Nat.le_of_ble_eq_true rfl) (by decide) (c_isIn camp14 hC (by omega) (by omega)) (by omega) ?_
    refine Gs_ifb_eq (tgt := 33) p103_19 (by rfl) (fun h19 => ?_) (fun h19 => ?_)
    · refine Gs_bipush p103_33 (by decide) ?_
      refine Gs_iret p103_35 rfl ⟨_, rfl, ?_⟩
      refine ⟨?_, rfl⟩
      first | (rw [if_neg (by omega)]; done) | (rw [if_pos (by omega)]; done)
    · refine Gs_aload_n p103_22 rfl rfl ?_
      refine Gs_getR p103_23 (by first | rfl | assumption | exact (show isTale _ from by assumption).1 | exact (show isCamp _ _ from by assumption).1 | exact (show isRow _ _ from by assumption).1) (by rfl) ?_
      refine Gs_iload_n p103_26 rfl rfl ?_
      refine Gs_callV1I p103_27 (by rfl) (by rfl) (by first | rfl | assumption | exact (show isTale _ from by assumption).1 | exact (show isCamp _ _ from by assumption).1 | exact (show isRow _ _ from by assumption).1) (Nat.le_of_ble_eq_true rfl) (by decide) (c_isIn camp14 hC (by omega) (by omega)) (by omega) ?_
      refine Gs_ifb_ne (tgt := 36) p103_30 (by rfl) (fun h30 => ?_) (fun h30 => ?_)
      · exfalso; omega
      · refine Gs_bipush p103_33 (by decide) ?_
        refine Gs_iret p103_35 rfl ⟨_, rfl, ?_⟩
        refine ⟨?_, rfl⟩
        first | (rw [if_neg (by omega)]; done) | (rw [if_pos (by omega)]; done)
  · refine Gs_iconst p103_9 ?_
    refine Gs_iret p103_10 rfl ⟨_, rfl, ?_⟩
    refine ⟨?_, rfl⟩
    first | (rw [if_neg (by omega)]; done) | (rw [if_pos (by omega)]; done)

set_option maxHeartbeats 1000000 in
set_option maxRecDepth 4000 in
theorem c_misIn {X : vX} {s : St} {n k : Int} (hm : MC s 98 n) (h0 : 0 ≤ k) (h1 : k < 4) : OkI X 0 159 [.ref 95, .int (iI k)] s (Is1 (if 0 < vA s 98 k then 1 else 0) s) := by
  refine Ok.of (r := vm_m159) (ls := [some (.ref 95), some (.int (iI k))]) rfl (Nat.le_of_ble_eq_true rfl) rfl (fun d hd => ?_)
  obtain ⟨m1, m2, m3, m4⟩ := id hm
  have b0 := m3 (0 + k) (by omega) (by omega)
  refine Gs_aload_n p159_0 rfl rfl ?_
  refine Gs_getR p159_1 (by first | rfl | assumption | exact (show isTale _ from by assumption).1 | exact (show isCamp _ _ from by assumption).1 | exact (show isRow _ _ from by assumption).1) (by rfl) ?_
  refine Gs_iconst p159_4 ?_
  refine Gs_iload_n p159_5 rfl rfl ?_
  refine Gs_iadd p159_6 ?_
  refine Gs_iald p159_7 (by first | rfl | assumption | exact (show isTale _ from by assumption).1 | exact (show isCamp _ _ from by assumption).1 | exact (show isRow _ _ from by assumption).1) (by omega) (by omega) (by omega) ?_
  refine Gs_if_le (tgt := 15) p159_8 (by rfl) (by first | assumption | exact ⟨by omega, by omega⟩ | (split <;> exact ⟨by omega, by omega⟩)) (fun h8 => ?_) (fun h8 => ?_)
  · refine Gs_iconst p159_15 ?_
    refine Gs_zret p159_16 rfl (by first | exact Or.inl rfl | exact Or.inr rfl | (split <;> first | exact Or.inl rfl | exact Or.inr rfl)) ⟨_, rfl, ?_⟩
    rw [Int.zero_add] at *
    refine ⟨?_, rfl⟩
    (repeat' split) <;> omega
  · refine Gs_iconst p159_11 ?_
    refine Gs_goto (tgt := 16) p159_12 (by rfl) ?_
    refine Gs_zret p159_16 rfl (by first | exact Or.inl rfl | exact Or.inr rfl | (split <;> first | exact Or.inl rfl | exact Or.inr rfl)) ⟨_, rfl, ?_⟩
    rw [Int.zero_add] at *
    refine ⟨?_, rfl⟩
    (repeat' split) <;> omega

set_option maxHeartbeats 4000000 in
set_option maxRecDepth 4000 in
theorem m_join {X : vX} {s : St} (hT : MT s) (hm : MC s 98 (vA s 96 2)) (hu : 0 ≤ vF s 95 5 ∧ vF s 95 5 ≤ 8) {a b : Int} (a0 : 0 ≤ a) (a1 : a < vA s 96 2) (b0 : 0 ≤ b) (b1 : b < vA s 96 2) (hab : a ≠ b) (c1 : 0 < vA s 98 a) (c2 : 0 < vA s 98 b) : OkI X 4 171 [.ref 95, .int (iI a), .int (iI b)] s (fun z u => z = (merV (mv s 98 0 (vA s 96 2)) a b) a 1 ∧ MOpH (remS s) u 98 (vA s 96 2) (merV (mv s 98 0 (vA s 96 2)) a b) (vA s 98 32)) := by
  refine Ok.of (r := vm_m171) (ls := [some (.ref 95), some (.int (iI a)), some (.int (iI b)), none, none, none]) rfl (Nat.le_of_ble_eq_true rfl) rfl (fun d hd => ?_)
  obtain ⟨a1x, a2, a3, a4, a5, a6, a7, a8⟩ := id hT
  obtain ⟨m1, m2, m3, m4⟩ := id hm
  have e98 : ∀ z, vA (remS s) 98 z = vA s 98 z := fun z => rem_A (by omega) z
  have e96 : ∀ z, vA (remS s) 96 z = vA s 96 z := fun z => rem_A (by omega) z
  have ha0 := m3 (0 + a) (by omega) (by omega)
  have hb0 := m3 (0 + b) (by omega) (by omega)
  have ha4 := (m4 a a0 a1).1
  have hb4 := (m4 b b0 b1).1
  have r4a : ∀ v, vA (sA (remS s) 98 (0 + a) v) 98 (4 + a) = vA s 98 (4 + a) := fun v => by rw [vA_sA, if_neg (by omega), e98]
  have r4b : ∀ v, vA (sA (remS s) 98 (0 + a) v) 98 (4 + b) = vA s 98 (4 + b) := fun v => by rw [vA_sA, if_neg (by omega), e98]
  have M1 := (((MOp.refl (remS s) 98 (vA s 96 2)).w a0 a1 (by omega) (w := 0) (v := mn 20 (vA s 98 (0 + a) + vA s 98 (0 + b))) (i := 0 + a) (by omega) (by omega) (by rw [mi_0, Int.zero_add])).w a0 a1 (by omega) (w := 1) (v := mn (vA s 98 (4 + a)) (vA s 98 (4 + b))) (i := 4 + a) (by omega) (by omega) (by rw [mi_1])).out b0 b1 (by omega)
  have M2 := M1.eq (show _ = merL (outV (mer1 (mv s 98 0 (vA s 96 2)) a b) b) a b 0 by
    rw [merL_0, mv_rem]
    unfold mer1
    rw [mv0 a0 a1, mv0 b0 b1, mv1 a0 a1, mv1 b0 b1, Int.zero_add, Int.zero_add])
  refine Gs_aload_n p171_0 rfl rfl ?_
  refine Gs_iload_n p171_1 rfl rfl ?_
  refine Gs_callV1I p171_2 (by rfl) (by rfl) (by first | rfl | assumption | exact (show isTale _ from by assumption).1 | exact (show isCamp _ _ from by assumption).1 | exact (show isRow _ _ from by assumption).1) (Nat.le_of_ble_eq_true rfl) (by decide) (c_misCompany hT ⟨by omega, by omega⟩) (by omega) ?_
  refine Gs_ifb_eq (tgt := 21) p171_5 (by rfl) (fun h5 => ?_) (fun h5 => ?_)
  · refine Gs_iconst p171_21 ?_
    refine Gs_iret p171_22 rfl ⟨_, rfl, ?_⟩
    exfalso; omega
  · refine Gs_aload_n p171_8 rfl rfl ?_
    refine Gs_iload_n p171_9 rfl rfl ?_
    refine Gs_callV1I p171_10 (by rfl) (by rfl) (by first | rfl | assumption | exact (show isTale _ from by assumption).1 | exact (show isCamp _ _ from by assumption).1 | exact (show isRow _ _ from by assumption).1) (Nat.le_of_ble_eq_true rfl) (by decide) (c_misCompany hT ⟨by omega, by omega⟩) (by omega) ?_
    refine Gs_ifb_eq (tgt := 21) p171_13 (by rfl) (fun h13 => ?_) (fun h13 => ?_)
    · refine Gs_iconst p171_21 ?_
      refine Gs_iret p171_22 rfl ⟨_, rfl, ?_⟩
      exfalso; omega
    · refine Gs_iload_n p171_16 rfl rfl ?_
      refine Gs_iload_n p171_17 rfl rfl ?_
      refine Gs_icmp_ne (tgt := 23) p171_18 (by rfl) (by first | assumption | exact ⟨by omega, by omega⟩ | (split <;> exact ⟨by omega, by omega⟩)) (by first | assumption | exact ⟨by omega, by omega⟩ | (split <;> exact ⟨by omega, by omega⟩)) (fun h18 => ?_) (fun h18 => ?_)
      · refine Gs_aload_n p171_23 rfl rfl ?_
        refine Gs_iload_n p171_24 rfl rfl ?_
        refine Gs_callV1I p171_25 (by rfl) (by rfl) (by first | rfl | assumption | exact (show isTale _ from by assumption).1 | exact (show isCamp _ _ from by assumption).1 | exact (show isRow _ _ from by assumption).1) (Nat.le_of_ble_eq_true rfl) (by decide) (c_misIn hm a0 (by omega)) (by omega) ?_
        refine Gs_ifb_eq (tgt := 39) p171_28 (by rfl) (fun h28 => ?_) (fun h28 => ?_)
        · refine Gs_bipush p171_39 (by decide) ?_
          refine Gs_iret p171_41 rfl ⟨_, rfl, ?_⟩
          exfalso; omega
        · refine Gs_aload_n p171_31 rfl rfl ?_
          refine Gs_iload_n p171_32 rfl rfl ?_
          refine Gs_callV1I p171_33 (by rfl) (by rfl) (by first | rfl | assumption | exact (show isTale _ from by assumption).1 | exact (show isCamp _ _ from by assumption).1 | exact (show isRow _ _ from by assumption).1) (Nat.le_of_ble_eq_true rfl) (by decide) (c_misIn hm b0 (by omega)) (by omega) ?_
          refine Gs_ifb_ne (tgt := 42) p171_36 (by rfl) (fun h36 => ?_) (fun h36 => ?_)
          · refine Gs_aload_n p171_42 rfl rfl ?_
            refine Gs_callV0W p171_43 (by rfl) (by rfl) (by first | rfl | assumption | exact (show isTale _ from by assumption).1 | exact (show isCamp _ _ from by assumption).1 | exact (show isRow _ _ from by assumption).1) (Nat.le_of_ble_eq_true rfl) (by decide) (c_remember hu.1 hu.2) (by omega) ?_
            refine Gs_aload_n p171_46 rfl rfl ?_
            refine Gs_getR p171_47 (by first | rfl | assumption | exact (show isTale _ from by assumption).1 | exact (show isCamp _ _ from by assumption).1 | exact (show isRow _ _ from by assumption).1) (by rfl) ?_
            refine Gs_iconst p171_50 ?_
            refine Gs_iload_n p171_51 rfl rfl ?_
            refine Gs_iadd p171_52 ?_
            refine Gs_iald p171_53 (by first | rfl | assumption | exact (show isTale _ from by assumption).1 | exact (show isCamp _ _ from by assumption).1 | exact (show isRow _ _ from by assumption).1) (by omega) (by omega) (by omega) ?_
            rw [e98]
            refine Gs_aload_n p171_54 rfl rfl ?_
            refine Gs_getR p171_55 (by first | rfl | assumption | exact (show isTale _ from by assumption).1 | exact (show isCamp _ _ from by assumption).1 | exact (show isRow _ _ from by assumption).1) (by rfl) ?_
            refine Gs_iconst p171_58 ?_
            refine Gs_iload_n p171_59 rfl rfl ?_
            refine Gs_iadd p171_60 ?_
            refine Gs_iald p171_61 (by first | rfl | assumption | exact (show isTale _ from by assumption).1 | exact (show isCamp _ _ from by assumption).1 | exact (show isRow _ _ from by assumption).1) (by omega) (by omega) (by omega) ?_
            rw [e98]
            refine Gs_iadd p171_62 ?_
            refine Gs_ist3 p171_63 (by first | rfl | assumption) ?_
            refine Gs_aload_n p171_64 rfl rfl ?_
            refine Gs_getR p171_65 (by first | rfl | assumption | exact (show isTale _ from by assumption).1 | exact (show isCamp _ _ from by assumption).1 | exact (show isRow _ _ from by assumption).1) (by rfl) ?_
            refine Gs_iconst p171_68 ?_
            refine Gs_iload_n p171_69 rfl rfl ?_
            refine Gs_iadd p171_70 ?_
            refine Gs_iload_n p171_71 rfl rfl ?_
            refine Gs_bipush p171_72 (by decide) ?_
            refine Gs_icmp_le (tgt := 82) p171_74 (by rfl) (by first | assumption | exact ⟨by omega, by omega⟩ | (split <;> exact ⟨by omega, by omega⟩)) (by first | assumption | exact ⟨by omega, by omega⟩ | (split <;> exact ⟨by omega, by omega⟩)) (fun h74 => ?_) (fun h74 => ?_)
            · refine Gs_iload_n p171_82 rfl rfl ?_
              refine Gs_top (mn 20 (vA s 98 (0 + a) + vA s 98 (0 + b))) (by rw [mn_if]; split <;> omega) ?_
              refine Gs_iast p171_83 (by first | rfl | assumption | exact (show isTale _ from by assumption).1 | exact (show isCamp _ _ from by assumption).1 | exact (show isRow _ _ from by assumption).1) (by omega) (by omega) (by omega) ?_
              refine Gs_aload_n p171_84 rfl rfl ?_
              refine Gs_getR p171_85 (by first | rfl | assumption | exact (show isTale _ from by assumption).1 | exact (show isCamp _ _ from by assumption).1 | exact (show isRow _ _ from by assumption).1) (by rfl) ?_
              refine Gs_iconst p171_88 ?_
              refine Gs_iload_n p171_89 rfl rfl ?_
              refine Gs_iadd p171_90 ?_
              refine Gs_aload_n p171_91 rfl rfl ?_
              refine Gs_getR p171_92 (by first | rfl | assumption | exact (show isTale _ from by assumption).1 | exact (show isCamp _ _ from by assumption).1 | exact (show isRow _ _ from by assumption).1) (by rfl) ?_
              refine Gs_iconst p171_95 ?_
              refine Gs_iload_n p171_96 rfl rfl ?_
              refine Gs_iadd p171_97 ?_
              refine Gs_iald p171_98 (by first | rfl | assumption | exact (show isTale _ from by assumption).1 | exact (show isCamp _ _ from by assumption).1 | exact (show isRow _ _ from by assumption).1) (by omega) (by omega) (by omega) ?_
              rw [r4a]
              refine Gs_aload_n p171_99 rfl rfl ?_
              refine Gs_getR p171_100 (by first | rfl | assumption | exact (show isTale _ from by assumption).1 | exact (show isCamp _ _ from by assumption).1 | exact (show isRow _ _ from by assumption).1) (by rfl) ?_
              refine Gs_iconst p171_103 ?_
              refine Gs_iload_n p171_104 rfl rfl ?_
              refine Gs_iadd p171_105 ?_
              refine Gs_iald p171_106 (by first | rfl | assumption | exact (show isTale _ from by assumption).1 | exact (show isCamp _ _ from by assumption).1 | exact (show isRow _ _ from by assumption).1) (by omega) (by omega) (by omega) ?_
              rw [r4b]
              refine Gs_icmp_ge (tgt := 121) p171_107 (by rfl) (by first | assumption | exact ⟨by omega, by omega⟩ | (split <;> exact ⟨by omega, by omega⟩)) (by first | assumption | exact ⟨by omega, by omega⟩ | (split <;> exact ⟨by omega, by omega⟩)) (fun h107 => ?_) (fun h107 => ?_)
              · refine Gs_aload_n p171_121 rfl rfl ?_
                refine Gs_getR p171_122 (by first | rfl | assumption | exact (show isTale _ from by assumption).1 | exact (show isCamp _ _ from by assumption).1 | exact (show isRow _ _ from by assumption).1) (by rfl) ?_
                refine Gs_iconst p171_125 ?_
                refine Gs_iload_n p171_126 rfl rfl ?_
                refine Gs_iadd p171_127 ?_
                refine Gs_iald p171_128 (by first | rfl | assumption | exact (show isTale _ from by assumption).1 | exact (show isCamp _ _ from by assumption).1 | exact (show isRow _ _ from by assumption).1) (by omega) (by omega) (by omega) ?_
                try rw [r4b]
                refine Gs_top (mn (vA s 98 (4 + a)) (vA s 98 (4 + b))) (by rw [mn_if]; split <;> omega) ?_
                refine Gs_iast p171_129 (by first | rfl | assumption | exact (show isTale _ from by assumption).1 | exact (show isCamp _ _ from by assumption).1 | exact (show isRow _ _ from by assumption).1) (by omega) (by omega) (by omega) ?_
                refine Gs_aload_n p171_130 rfl rfl ?_
                refine Gs_getR p171_131 (by first | rfl | assumption | exact (show isTale _ from by assumption).1 | exact (show isCamp _ _ from by assumption).1 | exact (show isRow _ _ from by assumption).1) (by rfl) ?_
                refine Gs_iload_n p171_134 rfl rfl ?_
                refine Gs_callS2W p171_135 (by rfl) (Nat.le_of_ble_eq_true rfl) (by decide) (c_goesOut isA98 b0 (by omega)) (by omega) ?_
                refine Gs_iconst p171_138 ?_
                refine Gs_ist4 p171_139 (by first | rfl | assumption) ?_
                refine dn (n := 4) (P := fun i => ∀ u B, MOp (remS s) u 98 (vA s 96 2) (merL (outV (mer1 (mv s 98 0 (vA s 96 2)) a b) b) a b i) → Gs X d 171 141 [some (.ref 95), some (.int (iI a)), some (.int (iI b)), some (.int (iI (vA s 98 (0 + a) + vA s 98 (0 + b)))), some (.int (iI i)), B] [] (u) (fun vv yy => ∃ z : Int, vv = some (.int (iI z)) ∧ (fun z u => z = (merV (mv s 98 0 (vA s 96 2)) a b) a 1 ∧ MOpH (remS s) u 98 (vA s 96 2) (merV (mv s 98 0 (vA s 96 2)) a b) (vA s 98 32)) z yy)) (by omega) (fun i hi hin ih => ?_) ?_ _ none M2
                · show ∀ u B, MOp (remS s) u 98 (vA s 96 2) (merL (outV (mer1 (mv s 98 0 (vA s 96 2)) a b) b) a b i) → Gs X d 171 141 [some (.ref 95), some (.int (iI a)), some (.int (iI b)), some (.int (iI (vA s 98 (0 + a) + vA s 98 (0 + b)))), some (.int (iI i)), B] [] (u) _
                  intro u B o
                  have OL : ∀ j x, 2 ≤ x → x < 6 → outV (mer1 (mv s 98 0 (vA s 96 2)) a b) b j x = (mv s 98 0 (vA s 96 2)) j x := fun j x x0 x1 => by
                    unfold outV mer1
                    simp only [upV_at]
                    rw [if_neg (by omega), if_neg (by omega), if_neg (by omega), if_neg (by omega), if_neg (by omega)]
                  have ea : vA u 98 (8 + 4 * a + i) = vA s 98 (8 + 4 * a + i) := by rw [← mv2 (n := vA s 96 2) a0 a1 hi hin, o.1, merL_at (by omega), OL _ _ (by omega) (by omega), mv2 a0 a1 hi hin]
                  have eb : vA u 98 (8 + 4 * b + i) = vA s 98 (8 + 4 * b + i) := by rw [← mv2 (n := vA s 96 2) b0 b1 hi hin, o.1, merL_at (by omega), OL _ _ (by omega) (by omega), mv2 b0 b1 hi hin]
                  have ba := (m4 a a0 a1).2.2.2 i hi hin
                  have bb := (m4 b b0 b1).2.2.2 i hi hin
                  have p2 := (o.w a0 a1 (by omega) (w := 2 + i) (v := mn 99 (vA s 98 (8 + 4 * a + i) + vA s 98 (8 + 4 * b + i))) (i := 8 + 4 * a + i) (by omega) (by omega) (mi_2 hi hin).symm).w b0 b1 (by omega) (w := 2 + i) (v := 0) (i := 8 + 4 * b + i) (by omega) (by omega) (mi_2 hi hin).symm
                  have p3 := p2.eq (show _ = merL (outV (mer1 (mv s 98 0 (vA s 96 2)) a b) b) a b (i + 1) by
                    rw [← merL_s hab hi, OL _ _ (by omega) (by omega), OL _ _ (by omega) (by omega), mv2 a0 a1 hi hin, mv2 b0 b1 hi hin])
                  refine Gs_iload p171_141 rfl rfl ?_
                  refine Gs_iconst p171_143 ?_
                  refine Gs_icmp_ge (tgt := 227) p171_144 (by rfl) (by first | assumption | exact ⟨by omega, by omega⟩ | (split <;> exact ⟨by omega, by omega⟩)) (by first | assumption | exact ⟨by omega, by omega⟩ | (split <;> exact ⟨by omega, by omega⟩)) (fun hc144 => absurd ‹_› (by first | omega | assumption)) (fun hc144 => ?_)
                  refine Gs_aload_n p171_147 rfl rfl ?_
                  refine Gs_getR p171_148 (by first | rfl | assumption | exact (show isTale _ from by assumption).1 | exact (show isCamp _ _ from by assumption).1 | exact (show isRow _ _ from by assumption).1) (by rfl) ?_
                  refine Gs_bipush p171_151 (by decide) ?_
                  refine Gs_iconst p171_153 ?_
                  refine Gs_iload_n p171_154 rfl rfl ?_
                  refine Gs_imul p171_155 ?_
                  refine Gs_iadd p171_156 ?_
                  refine Gs_iload p171_157 rfl rfl ?_
                  refine Gs_iadd p171_159 ?_
                  refine Gs_iald p171_160 (by first | rfl | assumption | exact (show isTale _ from by assumption).1 | exact (show isCamp _ _ from by assumption).1 | exact (show isRow _ _ from by assumption).1) (by omega) (by omega) (by omega) ?_
                  rw [ea]
                  refine Gs_aload_n p171_161 rfl rfl ?_
                  refine Gs_getR p171_162 (by first | rfl | assumption | exact (show isTale _ from by assumption).1 | exact (show isCamp _ _ from by assumption).1 | exact (show isRow _ _ from by assumption).1) (by rfl) ?_
                  refine Gs_bipush p171_165 (by decide) ?_
                  refine Gs_iconst p171_167 ?_
                  refine Gs_iload_n p171_168 rfl rfl ?_
                  refine Gs_imul p171_169 ?_
                  refine Gs_iadd p171_170 ?_
                  refine Gs_iload p171_171 rfl rfl ?_
                  refine Gs_iadd p171_173 ?_
                  refine Gs_iald p171_174 (by first | rfl | assumption | exact (show isTale _ from by assumption).1 | exact (show isCamp _ _ from by assumption).1 | exact (show isRow _ _ from by assumption).1) (by omega) (by omega) (by omega) ?_
                  rw [eb]
                  refine Gs_iadd p171_175 ?_
                  refine Gs_ist5 p171_176 (by first | rfl | assumption) ?_
                  refine Gs_aload_n p171_178 rfl rfl ?_
                  refine Gs_getR p171_179 (by first | rfl | assumption | exact (show isTale _ from by assumption).1 | exact (show isCamp _ _ from by assumption).1 | exact (show isRow _ _ from by assumption).1) (by rfl) ?_
                  refine Gs_bipush p171_182 (by decide) ?_
                  refine Gs_iconst p171_184 ?_
                  refine Gs_iload_n p171_185 rfl rfl ?_
                  refine Gs_imul p171_186 ?_
                  refine Gs_iadd p171_187 ?_
                  refine Gs_iload p171_188 rfl rfl ?_
                  refine Gs_iadd p171_190 ?_
                  refine Gs_iload p171_191 rfl rfl ?_
                  refine Gs_bipush p171_193 (by decide) ?_
                  refine Gs_icmp_le (tgt := 203) p171_195 (by rfl) (by first | assumption | exact ⟨by omega, by omega⟩ | (split <;> exact ⟨by omega, by omega⟩)) (by first | assumption | exact ⟨by omega, by omega⟩ | (split <;> exact ⟨by omega, by omega⟩)) (fun h195 => ?_) (fun h195 => ?_)
                  · refine Gs_iload p171_203 rfl rfl ?_
                    refine Gs_top (mn 99 (vA s 98 (8 + 4 * a + i) + vA s 98 (8 + 4 * b + i))) (by rw [mn_if]; split <;> omega) ?_
                    refine Gs_iast p171_205 (by first | rfl | assumption | exact (show isTale _ from by assumption).1 | exact (show isCamp _ _ from by assumption).1 | exact (show isRow _ _ from by assumption).1) (by omega) (by omega) (by omega) ?_
                    refine Gs_aload_n p171_206 rfl rfl ?_
                    refine Gs_getR p171_207 (by first | rfl | assumption | exact (show isTale _ from by assumption).1 | exact (show isCamp _ _ from by assumption).1 | exact (show isRow _ _ from by assumption).1) (by rfl) ?_
                    refine Gs_bipush p171_210 (by decide) ?_
                    refine Gs_iconst p171_212 ?_
                    refine Gs_iload_n p171_213 rfl rfl ?_
                    refine Gs_imul p171_214 ?_
                    refine Gs_iadd p171_215 ?_
                    refine Gs_iload p171_216 rfl rfl ?_
                    refine Gs_iadd p171_218 ?_
                    refine Gs_iconst p171_219 ?_
                    refine Gs_iast p171_220 (by first | rfl | assumption | exact (show isTale _ from by assumption).1 | exact (show isCamp _ _ from by assumption).1 | exact (show isRow _ _ from by assumption).1) (by omega) (by omega) (by omega) ?_
                    refine Gs_iinc4 (b54 := none) p171_221 (by first | rfl | assumption) ?_
                    refine Gs_goto (tgt := 141) p171_224 (by rfl) ?_
                    exact ih _ _ p3
                  · refine Gs_bipush p171_198 (by decide) ?_
                    refine Gs_goto (tgt := 205) p171_200 (by rfl) ?_
                    refine Gs_top (mn 99 (vA s 98 (8 + 4 * a + i) + vA s 98 (8 + 4 * b + i))) (by rw [mn_if]; split <;> omega) ?_
                    refine Gs_iast p171_205 (by first | rfl | assumption | exact (show isTale _ from by assumption).1 | exact (show isCamp _ _ from by assumption).1 | exact (show isRow _ _ from by assumption).1) (by omega) (by omega) (by omega) ?_
                    refine Gs_aload_n p171_206 rfl rfl ?_
                    refine Gs_getR p171_207 (by first | rfl | assumption | exact (show isTale _ from by assumption).1 | exact (show isCamp _ _ from by assumption).1 | exact (show isRow _ _ from by assumption).1) (by rfl) ?_
                    refine Gs_bipush p171_210 (by decide) ?_
                    refine Gs_iconst p171_212 ?_
                    refine Gs_iload_n p171_213 rfl rfl ?_
                    refine Gs_imul p171_214 ?_
                    refine Gs_iadd p171_215 ?_
                    refine Gs_iload p171_216 rfl rfl ?_
                    refine Gs_iadd p171_218 ?_
                    refine Gs_iconst p171_219 ?_
                    refine Gs_iast p171_220 (by first | rfl | assumption | exact (show isTale _ from by assumption).1 | exact (show isCamp _ _ from by assumption).1 | exact (show isRow _ _ from by assumption).1) (by omega) (by omega) (by omega) ?_
                    refine Gs_iinc4 (b54 := none) p171_221 (by first | rfl | assumption) ?_
                    refine Gs_goto (tgt := 141) p171_224 (by rfl) ?_
                    exact ih _ _ p3
                · show ∀ u B, MOp (remS s) u 98 (vA s 96 2) (merL (outV (mer1 (mv s 98 0 (vA s 96 2)) a b) b) a b (4)) → Gs X d 171 141 [some (.ref 95), some (.int (iI a)), some (.int (iI b)), some (.int (iI (vA s 98 (0 + a) + vA s 98 (0 + b)))), some (.int (iI (4))), B] [] (u) _
                  intro u B o
                  refine Gs_iload p171_141 rfl rfl ?_
                  refine Gs_iconst p171_143 ?_
                  refine Gs_icmp_ge (tgt := 227) p171_144 (by rfl) (by first | assumption | exact ⟨by omega, by omega⟩ | (split <;> exact ⟨by omega, by omega⟩)) (by first | assumption | exact ⟨by omega, by omega⟩ | (split <;> exact ⟨by omega, by omega⟩)) (fun hc144 => ?_) (fun hc144 => absurd ‹_› (by first | omega | assumption))
                  refine Gs_aload_n p171_227 rfl rfl ?_
                  refine Gs_getR p171_228 (by first | rfl | assumption | exact (show isTale _ from by assumption).1 | exact (show isCamp _ _ from by assumption).1 | exact (show isRow _ _ from by assumption).1) (by rfl) ?_
                  refine Gs_iconst p171_231 ?_
                  refine Gs_iload_n p171_232 rfl rfl ?_
                  refine Gs_iadd p171_233 ?_
                  refine Gs_iald p171_234 (by first | rfl | assumption | exact (show isTale _ from by assumption).1 | exact (show isCamp _ _ from by assumption).1 | exact (show isRow _ _ from by assumption).1) (by omega) (by omega) (by omega) ?_
                  refine Gs_iret p171_235 rfl ⟨_, rfl, ?_⟩
                  have H := o.h
                  rw [e98] at H
                  exact ⟨by rw [← mv1 (n := vA s 96 2) a0 a1, o.1]; rfl, H⟩
              · refine Gs_aload_n p171_110 rfl rfl ?_
                refine Gs_getR p171_111 (by first | rfl | assumption | exact (show isTale _ from by assumption).1 | exact (show isCamp _ _ from by assumption).1 | exact (show isRow _ _ from by assumption).1) (by rfl) ?_
                refine Gs_iconst p171_114 ?_
                refine Gs_iload_n p171_115 rfl rfl ?_
                refine Gs_iadd p171_116 ?_
                refine Gs_iald p171_117 (by first | rfl | assumption | exact (show isTale _ from by assumption).1 | exact (show isCamp _ _ from by assumption).1 | exact (show isRow _ _ from by assumption).1) (by omega) (by omega) (by omega) ?_
                rw [r4a]
                refine Gs_goto (tgt := 129) p171_118 (by rfl) ?_
                try rw [r4b]
                refine Gs_top (mn (vA s 98 (4 + a)) (vA s 98 (4 + b))) (by rw [mn_if]; split <;> omega) ?_
                refine Gs_iast p171_129 (by first | rfl | assumption | exact (show isTale _ from by assumption).1 | exact (show isCamp _ _ from by assumption).1 | exact (show isRow _ _ from by assumption).1) (by omega) (by omega) (by omega) ?_
                refine Gs_aload_n p171_130 rfl rfl ?_
                refine Gs_getR p171_131 (by first | rfl | assumption | exact (show isTale _ from by assumption).1 | exact (show isCamp _ _ from by assumption).1 | exact (show isRow _ _ from by assumption).1) (by rfl) ?_
                refine Gs_iload_n p171_134 rfl rfl ?_
                refine Gs_callS2W p171_135 (by rfl) (Nat.le_of_ble_eq_true rfl) (by decide) (c_goesOut isA98 b0 (by omega)) (by omega) ?_
                refine Gs_iconst p171_138 ?_
                refine Gs_ist4 p171_139 (by first | rfl | assumption) ?_
                refine dn (n := 4) (P := fun i => ∀ u B, MOp (remS s) u 98 (vA s 96 2) (merL (outV (mer1 (mv s 98 0 (vA s 96 2)) a b) b) a b i) → Gs X d 171 141 [some (.ref 95), some (.int (iI a)), some (.int (iI b)), some (.int (iI (vA s 98 (0 + a) + vA s 98 (0 + b)))), some (.int (iI i)), B] [] (u) (fun vv yy => ∃ z : Int, vv = some (.int (iI z)) ∧ (fun z u => z = (merV (mv s 98 0 (vA s 96 2)) a b) a 1 ∧ MOpH (remS s) u 98 (vA s 96 2) (merV (mv s 98 0 (vA s 96 2)) a b) (vA s 98 32)) z yy)) (by omega) (fun i hi hin ih => ?_) ?_ _ none M2
                · show ∀ u B, MOp (remS s) u 98 (vA s 96 2) (merL (outV (mer1 (mv s 98 0 (vA s 96 2)) a b) b) a b i) → Gs X d 171 141 [some (.ref 95), some (.int (iI a)), some (.int (iI b)), some (.int (iI (vA s 98 (0 + a) + vA s 98 (0 + b)))), some (.int (iI i)), B] [] (u) _
                  intro u B o
                  have OL : ∀ j x, 2 ≤ x → x < 6 → outV (mer1 (mv s 98 0 (vA s 96 2)) a b) b j x = (mv s 98 0 (vA s 96 2)) j x := fun j x x0 x1 => by
                    unfold outV mer1
                    simp only [upV_at]
                    rw [if_neg (by omega), if_neg (by omega), if_neg (by omega), if_neg (by omega), if_neg (by omega)]
                  have ea : vA u 98 (8 + 4 * a + i) = vA s 98 (8 + 4 * a + i) := by rw [← mv2 (n := vA s 96 2) a0 a1 hi hin, o.1, merL_at (by omega), OL _ _ (by omega) (by omega), mv2 a0 a1 hi hin]
                  have eb : vA u 98 (8 + 4 * b + i) = vA s 98 (8 + 4 * b + i) := by rw [← mv2 (n := vA s 96 2) b0 b1 hi hin, o.1, merL_at (by omega), OL _ _ (by omega) (by omega), mv2 b0 b1 hi hin]
                  have ba := (m4 a a0 a1).2.2.2 i hi hin
                  have bb := (m4 b b0 b1).2.2.2 i hi hin
                  have p2 := (o.w a0 a1 (by omega) (w := 2 + i) (v := mn 99 (vA s 98 (8 + 4 * a + i) + vA s 98 (8 + 4 * b + i))) (i := 8 + 4 * a + i) (by omega) (by omega) (mi_2 hi hin).symm).w b0 b1 (by omega) (w := 2 + i) (v := 0) (i := 8 + 4 * b + i) (by omega) (by omega) (mi_2 hi hin).symm
                  have p3 := p2.eq (show _ = merL (outV (mer1 (mv s 98 0 (vA s 96 2)) a b) b) a b (i + 1) by
                    rw [← merL_s hab hi, OL _ _ (by omega) (by omega), OL _ _ (by omega) (by omega), mv2 a0 a1 hi hin, mv2 b0 b1 hi hin])
                  refine Gs_iload p171_141 rfl rfl ?_
                  refine Gs_iconst p171_143 ?_
                  refine Gs_icmp_ge (tgt := 227) p171_144 (by rfl) (by first | assumption | exact ⟨by omega, by omega⟩ | (split <;> exact ⟨by omega, by omega⟩)) (by first | assumption | exact ⟨by omega, by omega⟩ | (split <;> exact ⟨by omega, by omega⟩)) (fun hc144 => absurd ‹_› (by first | omega | assumption)) (fun hc144 => ?_)
                  refine Gs_aload_n p171_147 rfl rfl ?_
                  refine Gs_getR p171_148 (by first | rfl | assumption | exact (show isTale _ from by assumption).1 | exact (show isCamp _ _ from by assumption).1 | exact (show isRow _ _ from by assumption).1) (by rfl) ?_
                  refine Gs_bipush p171_151 (by decide) ?_
                  refine Gs_iconst p171_153 ?_
                  refine Gs_iload_n p171_154 rfl rfl ?_
                  refine Gs_imul p171_155 ?_
                  refine Gs_iadd p171_156 ?_
                  refine Gs_iload p171_157 rfl rfl ?_
                  refine Gs_iadd p171_159 ?_
                  refine Gs_iald p171_160 (by first | rfl | assumption | exact (show isTale _ from by assumption).1 | exact (show isCamp _ _ from by assumption).1 | exact (show isRow _ _ from by assumption).1) (by omega) (by omega) (by omega) ?_
                  rw [ea]
                  refine Gs_aload_n p171_161 rfl rfl ?_
                  refine Gs_getR p171_162 (by first | rfl | assumption | exact (show isTale _ from by assumption).1 | exact (show isCamp _ _ from by assumption).1 | exact (show isRow _ _ from by assumption).1) (by rfl) ?_
                  refine Gs_bipush p171_165 (by decide) ?_
                  refine Gs_iconst p171_167 ?_
                  refine Gs_iload_n p171_168 rfl rfl ?_
                  refine Gs_imul p171_169 ?_
                  refine Gs_iadd p171_170 ?_
                  refine Gs_iload p171_171 rfl rfl ?_
                  refine Gs_iadd p171_173 ?_
                  refine Gs_iald p171_174 (by first | rfl | assumption | exact (show isTale _ from by assumption).1 | exact (show isCamp _ _ from by assumption).1 | exact (show isRow _ _ from by assumption).1) (by omega) (by omega) (by omega) ?_
                  rw [eb]
                  refine Gs_iadd p171_175 ?_
                  refine Gs_ist5 p171_176 (by first | rfl | assumption) ?_
                  refine Gs_aload_n p171_178 rfl rfl ?_
                  refine Gs_getR p171_179 (by first | rfl | assumption | exact (show isTale _ from by assumption).1 | exact (show isCamp _ _ from by assumption).1 | exact (show isRow _ _ from by assumption).1) (by rfl) ?_
                  refine Gs_bipush p171_182 (by decide) ?_
                  refine Gs_iconst p171_184 ?_
                  refine Gs_iload_n p171_185 rfl rfl ?_
                  refine Gs_imul p171_186 ?_
                  refine Gs_iadd p171_187 ?_
                  refine Gs_iload p171_188 rfl rfl ?_
                  refine Gs_iadd p171_190 ?_
                  refine Gs_iload p171_191 rfl rfl ?_
                  refine Gs_bipush p171_193 (by decide) ?_
                  refine Gs_icmp_le (tgt := 203) p171_195 (by rfl) (by first | assumption | exact ⟨by omega, by omega⟩ | (split <;> exact ⟨by omega, by omega⟩)) (by first | assumption | exact ⟨by omega, by omega⟩ | (split <;> exact ⟨by omega, by omega⟩)) (fun h195 => ?_) (fun h195 => ?_)
                  · refine Gs_iload p171_203 rfl rfl ?_
                    refine Gs_top (mn 99 (vA s 98 (8 + 4 * a + i) + vA s 98 (8 + 4 * b + i))) (by rw [mn_if]; split <;> omega) ?_
                    refine Gs_iast p171_205 (by first | rfl | assumption | exact (show isTale _ from by assumption).1 | exact (show isCamp _ _ from by assumption).1 | exact (show isRow _ _ from by assumption).1) (by omega) (by omega) (by omega) ?_
                    refine Gs_aload_n p171_206 rfl rfl ?_
                    refine Gs_getR p171_207 (by first | rfl | assumption | exact (show isTale _ from by assumption).1 | exact (show isCamp _ _ from by assumption).1 | exact (show isRow _ _ from by assumption).1) (by rfl) ?_
                    refine Gs_bipush p171_210 (by decide) ?_
                    refine Gs_iconst p171_212 ?_
                    refine Gs_iload_n p171_213 rfl rfl ?_
                    refine Gs_imul p171_214 ?_
                    refine Gs_iadd p171_215 ?_
                    refine Gs_iload p171_216 rfl rfl ?_
                    refine Gs_iadd p171_218 ?_
                    refine Gs_iconst p171_219 ?_
                    refine Gs_iast p171_220 (by first | rfl | assumption | exact (show isTale _ from by assumption).1 | exact (show isCamp _ _ from by assumption).1 | exact (show isRow _ _ from by assumption).1) (by omega) (by omega) (by omega) ?_
                    refine Gs_iinc4 (b54 := none) p171_221 (by first | rfl | assumption) ?_
                    refine Gs_goto (tgt := 141) p171_224 (by rfl) ?_
                    exact ih _ _ p3
                  · refine Gs_bipush p171_198 (by decide) ?_
                    refine Gs_goto (tgt := 205) p171_200 (by rfl) ?_
                    refine Gs_top (mn 99 (vA s 98 (8 + 4 * a + i) + vA s 98 (8 + 4 * b + i))) (by rw [mn_if]; split <;> omega) ?_
                    refine Gs_iast p171_205 (by first | rfl | assumption | exact (show isTale _ from by assumption).1 | exact (show isCamp _ _ from by assumption).1 | exact (show isRow _ _ from by assumption).1) (by omega) (by omega) (by omega) ?_
                    refine Gs_aload_n p171_206 rfl rfl ?_
                    refine Gs_getR p171_207 (by first | rfl | assumption | exact (show isTale _ from by assumption).1 | exact (show isCamp _ _ from by assumption).1 | exact (show isRow _ _ from by assumption).1) (by rfl) ?_
                    refine Gs_bipush p171_210 (by decide) ?_
                    refine Gs_iconst p171_212 ?_
                    refine Gs_iload_n p171_213 rfl rfl ?_
                    refine Gs_imul p171_214 ?_
                    refine Gs_iadd p171_215 ?_
                    refine Gs_iload p171_216 rfl rfl ?_
                    refine Gs_iadd p171_218 ?_
                    refine Gs_iconst p171_219 ?_
                    refine Gs_iast p171_220 (by first | rfl | assumption | exact (show isTale _ from by assumption).1 | exact (show isCamp _ _ from by assumption).1 | exact (show isRow _ _ from by assumption).1) (by omega) (by omega) (by omega) ?_
                    refine Gs_iinc4 (b54 := none) p171_221 (by first | rfl | assumption) ?_
                    refine Gs_goto (tgt := 141) p171_224 (by rfl) ?_
                    exact ih _ _ p3
                · show ∀ u B, MOp (remS s) u 98 (vA s 96 2) (merL (outV (mer1 (mv s 98 0 (vA s 96 2)) a b) b) a b (4)) → Gs X d 171 141 [some (.ref 95), some (.int (iI a)), some (.int (iI b)), some (.int (iI (vA s 98 (0 + a) + vA s 98 (0 + b)))), some (.int (iI (4))), B] [] (u) _
                  intro u B o
                  refine Gs_iload p171_141 rfl rfl ?_
                  refine Gs_iconst p171_143 ?_
                  refine Gs_icmp_ge (tgt := 227) p171_144 (by rfl) (by first | assumption | exact ⟨by omega, by omega⟩ | (split <;> exact ⟨by omega, by omega⟩)) (by first | assumption | exact ⟨by omega, by omega⟩ | (split <;> exact ⟨by omega, by omega⟩)) (fun hc144 => ?_) (fun hc144 => absurd ‹_› (by first | omega | assumption))
                  refine Gs_aload_n p171_227 rfl rfl ?_
                  refine Gs_getR p171_228 (by first | rfl | assumption | exact (show isTale _ from by assumption).1 | exact (show isCamp _ _ from by assumption).1 | exact (show isRow _ _ from by assumption).1) (by rfl) ?_
                  refine Gs_iconst p171_231 ?_
                  refine Gs_iload_n p171_232 rfl rfl ?_
                  refine Gs_iadd p171_233 ?_
                  refine Gs_iald p171_234 (by first | rfl | assumption | exact (show isTale _ from by assumption).1 | exact (show isCamp _ _ from by assumption).1 | exact (show isRow _ _ from by assumption).1) (by omega) (by omega) (by omega) ?_
                  refine Gs_iret p171_235 rfl ⟨_, rfl, ?_⟩
                  have H := o.h
                  rw [e98] at H
                  exact ⟨by rw [← mv1 (n := vA s 96 2) a0 a1, o.1]; rfl, H⟩
            · refine Gs_bipush p171_77 (by decide) ?_
              refine Gs_goto (tgt := 83) p171_79 (by rfl) ?_
              refine Gs_top (mn 20 (vA s 98 (0 + a) + vA s 98 (0 + b))) (by rw [mn_if]; split <;> omega) ?_
              refine Gs_iast p171_83 (by first | rfl | assumption | exact (show isTale _ from by assumption).1 | exact (show isCamp _ _ from by assumption).1 | exact (show isRow _ _ from by assumption).1) (by omega) (by omega) (by omega) ?_
              refine Gs_aload_n p171_84 rfl rfl ?_
              refine Gs_getR p171_85 (by first | rfl | assumption | exact (show isTale _ from by assumption).1 | exact (show isCamp _ _ from by assumption).1 | exact (show isRow _ _ from by assumption).1) (by rfl) ?_
              refine Gs_iconst p171_88 ?_
              refine Gs_iload_n p171_89 rfl rfl ?_
              refine Gs_iadd p171_90 ?_
              refine Gs_aload_n p171_91 rfl rfl ?_
              refine Gs_getR p171_92 (by first | rfl | assumption | exact (show isTale _ from by assumption).1 | exact (show isCamp _ _ from by assumption).1 | exact (show isRow _ _ from by assumption).1) (by rfl) ?_
              refine Gs_iconst p171_95 ?_
              refine Gs_iload_n p171_96 rfl rfl ?_
              refine Gs_iadd p171_97 ?_
              refine Gs_iald p171_98 (by first | rfl | assumption | exact (show isTale _ from by assumption).1 | exact (show isCamp _ _ from by assumption).1 | exact (show isRow _ _ from by assumption).1) (by omega) (by omega) (by omega) ?_
              rw [r4a]
              refine Gs_aload_n p171_99 rfl rfl ?_
              refine Gs_getR p171_100 (by first | rfl | assumption | exact (show isTale _ from by assumption).1 | exact (show isCamp _ _ from by assumption).1 | exact (show isRow _ _ from by assumption).1) (by rfl) ?_
              refine Gs_iconst p171_103 ?_
              refine Gs_iload_n p171_104 rfl rfl ?_
              refine Gs_iadd p171_105 ?_
              refine Gs_iald p171_106 (by first | rfl | assumption | exact (show isTale _ from by assumption).1 | exact (show isCamp _ _ from by assumption).1 | exact (show isRow _ _ from by assumption).1) (by omega) (by omega) (by omega) ?_
              rw [r4b]
              refine Gs_icmp_ge (tgt := 121) p171_107 (by rfl) (by first | assumption | exact ⟨by omega, by omega⟩ | (split <;> exact ⟨by omega, by omega⟩)) (by first | assumption | exact ⟨by omega, by omega⟩ | (split <;> exact ⟨by omega, by omega⟩)) (fun h107 => ?_) (fun h107 => ?_)
              · refine Gs_aload_n p171_121 rfl rfl ?_
                refine Gs_getR p171_122 (by first | rfl | assumption | exact (show isTale _ from by assumption).1 | exact (show isCamp _ _ from by assumption).1 | exact (show isRow _ _ from by assumption).1) (by rfl) ?_
                refine Gs_iconst p171_125 ?_
                refine Gs_iload_n p171_126 rfl rfl ?_
                refine Gs_iadd p171_127 ?_
                refine Gs_iald p171_128 (by first | rfl | assumption | exact (show isTale _ from by assumption).1 | exact (show isCamp _ _ from by assumption).1 | exact (show isRow _ _ from by assumption).1) (by omega) (by omega) (by omega) ?_
                try rw [r4b]
                refine Gs_top (mn (vA s 98 (4 + a)) (vA s 98 (4 + b))) (by rw [mn_if]; split <;> omega) ?_
                refine Gs_iast p171_129 (by first | rfl | assumption | exact (show isTale _ from by assumption).1 | exact (show isCamp _ _ from by assumption).1 | exact (show isRow _ _ from by assumption).1) (by omega) (by omega) (by omega) ?_
                refine Gs_aload_n p171_130 rfl rfl ?_
                refine Gs_getR p171_131 (by first | rfl | assumption | exact (show isTale _ from by assumption).1 | exact (show isCamp _ _ from by assumption).1 | exact (show isRow _ _ from by assumption).1) (by rfl) ?_
                refine Gs_iload_n p171_134 rfl rfl ?_
                refine Gs_callS2W p171_135 (by rfl) (Nat.le_of_ble_eq_true rfl) (by decide) (c_goesOut isA98 b0 (by omega)) (by omega) ?_
                refine Gs_iconst p171_138 ?_
                refine Gs_ist4 p171_139 (by first | rfl | assumption) ?_
                refine dn (n := 4) (P := fun i => ∀ u B, MOp (remS s) u 98 (vA s 96 2) (merL (outV (mer1 (mv s 98 0 (vA s 96 2)) a b) b) a b i) → Gs X d 171 141 [some (.ref 95), some (.int (iI a)), some (.int (iI b)), some (.int (iI (vA s 98 (0 + a) + vA s 98 (0 + b)))), some (.int (iI i)), B] [] (u) (fun vv yy => ∃ z : Int, vv = some (.int (iI z)) ∧ (fun z u => z = (merV (mv s 98 0 (vA s 96 2)) a b) a 1 ∧ MOpH (remS s) u 98 (vA s 96 2) (merV (mv s 98 0 (vA s 96 2)) a b) (vA s 98 32)) z yy)) (by omega) (fun i hi hin ih => ?_) ?_ _ none M2
                · show ∀ u B, MOp (remS s) u 98 (vA s 96 2) (merL (outV (mer1 (mv s 98 0 (vA s 96 2)) a b) b) a b i) → Gs X d 171 141 [some (.ref 95), some (.int (iI a)), some (.int (iI b)), some (.int (iI (vA s 98 (0 + a) + vA s 98 (0 + b)))), some (.int (iI i)), B] [] (u) _
                  intro u B o
                  have OL : ∀ j x, 2 ≤ x → x < 6 → outV (mer1 (mv s 98 0 (vA s 96 2)) a b) b j x = (mv s 98 0 (vA s 96 2)) j x := fun j x x0 x1 => by
                    unfold outV mer1
                    simp only [upV_at]
                    rw [if_neg (by omega), if_neg (by omega), if_neg (by omega), if_neg (by omega), if_neg (by omega)]
                  have ea : vA u 98 (8 + 4 * a + i) = vA s 98 (8 + 4 * a + i) := by rw [← mv2 (n := vA s 96 2) a0 a1 hi hin, o.1, merL_at (by omega), OL _ _ (by omega) (by omega), mv2 a0 a1 hi hin]
                  have eb : vA u 98 (8 + 4 * b + i) = vA s 98 (8 + 4 * b + i) := by rw [← mv2 (n := vA s 96 2) b0 b1 hi hin, o.1, merL_at (by omega), OL _ _ (by omega) (by omega), mv2 b0 b1 hi hin]
                  have ba := (m4 a a0 a1).2.2.2 i hi hin
                  have bb := (m4 b b0 b1).2.2.2 i hi hin
                  have p2 := (o.w a0 a1 (by omega) (w := 2 + i) (v := mn 99 (vA s 98 (8 + 4 * a + i) + vA s 98 (8 + 4 * b + i))) (i := 8 + 4 * a + i) (by omega) (by omega) (mi_2 hi hin).symm).w b0 b1 (by omega) (w := 2 + i) (v := 0) (i := 8 + 4 * b + i) (by omega) (by omega) (mi_2 hi hin).symm
                  have p3 := p2.eq (show _ = merL (outV (mer1 (mv s 98 0 (vA s 96 2)) a b) b) a b (i + 1) by
                    rw [← merL_s hab hi, OL _ _ (by omega) (by omega), OL _ _ (by omega) (by omega), mv2 a0 a1 hi hin, mv2 b0 b1 hi hin])
                  refine Gs_iload p171_141 rfl rfl ?_
                  refine Gs_iconst p171_143 ?_
                  refine Gs_icmp_ge (tgt := 227) p171_144 (by rfl) (by first | assumption | exact ⟨by omega, by omega⟩ | (split <;> exact ⟨by omega, by omega⟩)) (by first | assumption | exact ⟨by omega, by omega⟩ | (split <;> exact ⟨by omega, by omega⟩)) (fun hc144 => absurd ‹_› (by first | omega | assumption)) (fun hc144 => ?_)
                  refine Gs_aload_n p171_147 rfl rfl ?_
                  refine Gs_getR p171_148 (by first | rfl | assumption | exact (show isTale _ from by assumption).1 | exact (show isCamp _ _ from by assumption).1 | exact (show isRow _ _ from by assumption).1) (by rfl) ?_
                  refine Gs_bipush p171_151 (by decide) ?_
                  refine Gs_iconst p171_153 ?_
                  refine Gs_iload_n p171_154 rfl rfl ?_
                  refine Gs_imul p171_155 ?_
                  refine Gs_iadd p171_156 ?_
                  refine Gs_iload p171_157 rfl rfl ?_
                  refine Gs_iadd p171_159 ?_
                  refine Gs_iald p171_160 (by first | rfl | assumption | exact (show isTale _ from by assumption).1 | exact (show isCamp _ _ from by assumption).1 | exact (show isRow _ _ from by assumption).1) (by omega) (by omega) (by omega) ?_
                  rw [ea]
                  refine Gs_aload_n p171_161 rfl rfl ?_
                  refine Gs_getR p171_162 (by first | rfl | assumption | exact (show isTale _ from by assumption).1 | exact (show isCamp _ _ from by assumption).1 | exact (show isRow _ _ from by assumption).1) (by rfl) ?_
                  refine Gs_bipush p171_165 (by decide) ?_
                  refine Gs_iconst p171_167 ?_
                  refine Gs_iload_n p171_168 rfl rfl ?_
                  refine Gs_imul p171_169 ?_
                  refine Gs_iadd p171_170 ?_
                  refine Gs_iload p171_171 rfl rfl ?_
                  refine Gs_iadd p171_173 ?_
                  refine Gs_iald p171_174 (by first | rfl | assumption | exact (show isTale _ from by assumption).1 | exact (show isCamp _ _ from by assumption).1 | exact (show isRow _ _ from by assumption).1) (by omega) (by omega) (by omega) ?_
                  rw [eb]
                  refine Gs_iadd p171_175 ?_
                  refine Gs_ist5 p171_176 (by first | rfl | assumption) ?_
                  refine Gs_aload_n p171_178 rfl rfl ?_
                  refine Gs_getR p171_179 (by first | rfl | assumption | exact (show isTale _ from by assumption).1 | exact (show isCamp _ _ from by assumption).1 | exact (show isRow _ _ from by assumption).1) (by rfl) ?_
                  refine Gs_bipush p171_182 (by decide) ?_
                  refine Gs_iconst p171_184 ?_
                  refine Gs_iload_n p171_185 rfl rfl ?_
                  refine Gs_imul p171_186 ?_
                  refine Gs_iadd p171_187 ?_
                  refine Gs_iload p171_188 rfl rfl ?_
                  refine Gs_iadd p171_190 ?_
                  refine Gs_iload p171_191 rfl rfl ?_
                  refine Gs_bipush p171_193 (by decide) ?_
                  refine Gs_icmp_le (tgt := 203) p171_195 (by rfl) (by first | assumption | exact ⟨by omega, by omega⟩ | (split <;> exact ⟨by omega, by omega⟩)) (by first | assumption | exact ⟨by omega, by omega⟩ | (split <;> exact ⟨by omega, by omega⟩)) (fun h195 => ?_) (fun h195 => ?_)
                  · refine Gs_iload p171_203 rfl rfl ?_
                    refine Gs_top (mn 99 (vA s 98 (8 + 4 * a + i) + vA s 98 (8 + 4 * b + i))) (by rw [mn_if]; split <;> omega) ?_
                    refine Gs_iast p171_205 (by first | rfl | assumption | exact (show isTale _ from by assumption).1 | exact (show isCamp _ _ from by assumption).1 | exact (show isRow _ _ from by assumption).1) (by omega) (by omega) (by omega) ?_
                    refine Gs_aload_n p171_206 rfl rfl ?_
                    refine Gs_getR p171_207 (by first | rfl | assumption | exact (show isTale _ from by assumption).1 | exact (show isCamp _ _ from by assumption).1 | exact (show isRow _ _ from by assumption).1) (by rfl) ?_
                    refine Gs_bipush p171_210 (by decide) ?_
                    refine Gs_iconst p171_212 ?_
                    refine Gs_iload_n p171_213 rfl rfl ?_
                    refine Gs_imul p171_214 ?_
                    refine Gs_iadd p171_215 ?_
                    refine Gs_iload p171_216 rfl rfl ?_
                    refine Gs_iadd p171_218 ?_
                    refine Gs_iconst p171_219 ?_
                    refine Gs_iast p171_220 (by first | rfl | assumption | exact (show isTale _ from by assumption).1 | exact (show isCamp _ _ from by assumption).1 | exact (show isRow _ _ from by assumption).1) (by omega) (by omega) (by omega) ?_
                    refine Gs_iinc4 (b54 := none) p171_221 (by first | rfl | assumption) ?_
                    refine Gs_goto (tgt := 141) p171_224 (by rfl) ?_
                    exact ih _ _ p3
                  · refine Gs_bipush p171_198 (by decide) ?_
                    refine Gs_goto (tgt := 205) p171_200 (by rfl) ?_
                    refine Gs_top (mn 99 (vA s 98 (8 + 4 * a + i) + vA s 98 (8 + 4 * b + i))) (by rw [mn_if]; split <;> omega) ?_
                    refine Gs_iast p171_205 (by first | rfl | assumption | exact (show isTale _ from by assumption).1 | exact (show isCamp _ _ from by assumption).1 | exact (show isRow _ _ from by assumption).1) (by omega) (by omega) (by omega) ?_
                    refine Gs_aload_n p171_206 rfl rfl ?_
                    refine Gs_getR p171_207 (by first | rfl | assumption | exact (show isTale _ from by assumption).1 | exact (show isCamp _ _ from by assumption).1 | exact (show isRow _ _ from by assumption).1) (by rfl) ?_
                    refine Gs_bipush p171_210 (by decide) ?_
                    refine Gs_iconst p171_212 ?_
                    refine Gs_iload_n p171_213 rfl rfl ?_
                    refine Gs_imul p171_214 ?_
                    refine Gs_iadd p171_215 ?_
                    refine Gs_iload p171_216 rfl rfl ?_
                    refine Gs_iadd p171_218 ?_
                    refine Gs_iconst p171_219 ?_
                    refine Gs_iast p171_220 (by first | rfl | assumption | exact (show isTale _ from by assumption).1 | exact (show isCamp _ _ from by assumption).1 | exact (show isRow _ _ from by assumption).1) (by omega) (by omega) (by omega) ?_
                    refine Gs_iinc4 (b54 := none) p171_221 (by first | rfl | assumption) ?_
                    refine Gs_goto (tgt := 141) p171_224 (by rfl) ?_
                    exact ih _ _ p3
                · show ∀ u B, MOp (remS s) u 98 (vA s 96 2) (merL (outV (mer1 (mv s 98 0 (vA s 96 2)) a b) b) a b (4)) → Gs X d 171 141 [some (.ref 95), some (.int (iI a)), some (.int (iI b)), some (.int (iI (vA s 98 (0 + a) + vA s 98 (0 + b)))), some (.int (iI (4))), B] [] (u) _
                  intro u B o
                  refine Gs_iload p171_141 rfl rfl ?_
                  refine Gs_iconst p171_143 ?_
                  refine Gs_icmp_ge (tgt := 227) p171_144 (by rfl) (by first | assumption | exact ⟨by omega, by omega⟩ | (split <;> exact ⟨by omega, by omega⟩)) (by first | assumption | exact ⟨by omega, by omega⟩ | (split <;> exact ⟨by omega, by omega⟩)) (fun hc144 => ?_) (fun hc144 => absurd ‹_› (by first | omega | assumption))
                  refine Gs_aload_n p171_227 rfl rfl ?_
                  refine Gs_getR p171_228 (by first | rfl | assumption | exact (show isTale _ from by assumption).1 | exact (show isCamp _ _ from by assumption).1 | exact (show isRow _ _ from by assumption).1) (by rfl) ?_
                  refine Gs_iconst p171_231 ?_
                  refine Gs_iload_n p171_232 rfl rfl ?_
                  refine Gs_iadd p171_233 ?_
                  refine Gs_iald p171_234 (by first | rfl | assumption | exact (show isTale _ from by assumption).1 | exact (show isCamp _ _ from by assumption).1 | exact (show isRow _ _ from by assumption).1) (by omega) (by omega) (by omega) ?_
                  refine Gs_iret p171_235 rfl ⟨_, rfl, ?_⟩
                  have H := o.h
                  rw [e98] at H
                  exact ⟨by rw [← mv1 (n := vA s 96 2) a0 a1, o.1]; rfl, H⟩
              · refine Gs_aload_n p171_110 rfl rfl ?_
                refine Gs_getR p171_111 (by first | rfl | assumption | exact (show isTale _ from by assumption).1 | exact (show isCamp _ _ from by assumption).1 | exact (show isRow _ _ from by assumption).1) (by rfl) ?_
                refine Gs_iconst p171_114 ?_
                refine Gs_iload_n p171_115 rfl rfl ?_
                refine Gs_iadd p171_116 ?_
                refine Gs_iald p171_117 (by first | rfl | assumption | exact (show isTale _ from by assumption).1 | exact (show isCamp _ _ from by assumption).1 | exact (show isRow _ _ from by assumption).1) (by omega) (by omega) (by omega) ?_
                rw [r4a]
                refine Gs_goto (tgt := 129) p171_118 (by rfl) ?_
                try rw [r4b]
                refine Gs_top (mn (vA s 98 (4 + a)) (vA s 98 (4 + b))) (by rw [mn_if]; split <;> omega) ?_
                refine Gs_iast p171_129 (by first | rfl | assumption | exact (show isTale _ from by assumption).1 | exact (show isCamp _ _ from by assumption).1 | exact (show isRow _ _ from by assumption).1) (by omega) (by omega) (by omega) ?_
                refine Gs_aload_n p171_130 rfl rfl ?_
                refine Gs_getR p171_131 (by first | rfl | assumption | exact (show isTale _ from by assumption).1 | exact (show isCamp _ _ from by assumption).1 | exact (show isRow _ _ from by assumption).1) (by rfl) ?_
                refine Gs_iload_n p171_134 rfl rfl ?_
                refine Gs_callS2W p171_135 (by rfl) (Nat.le_of_ble_eq_true rfl) (by decide) (c_goesOut isA98 b0 (by omega)) (by omega) ?_
                refine Gs_iconst p171_138 ?_
                refine Gs_ist4 p171_139 (by first | rfl | assumption) ?_
                refine dn (n := 4) (P := fun i => ∀ u B, MOp (remS s) u 98 (vA s 96 2) (merL (outV (mer1 (mv s 98 0 (vA s 96 2)) a b) b) a b i) → Gs X d 171 141 [some (.ref 95), some (.int (iI a)), some (.int (iI b)), some (.int (iI (vA s 98 (0 + a) + vA s 98 (0 + b)))), some (.int (iI i)), B] [] (u) (fun vv yy => ∃ z : Int, vv = some (.int (iI z)) ∧ (fun z u => z = (merV (mv s 98 0 (vA s 96 2)) a b) a 1 ∧ MOpH (remS s) u 98 (vA s 96 2) (merV (mv s 98 0 (vA s 96 2)) a b) (vA s 98 32)) z yy)) (by omega) (fun i hi hin ih => ?_) ?_ _ none M2
                · show ∀ u B, MOp (remS s) u 98 (vA s 96 2) (merL (outV (mer1 (mv s 98 0 (vA s 96 2)) a b) b) a b i) → Gs X d 171 141 [some (.ref 95), some (.int (iI a)), some (.int (iI b)), some (.int (iI (vA s 98 (0 + a) + vA s 98 (0 + b)))), some (.int (iI i)), B] [] (u) _
                  intro u B o
                  have OL : ∀ j x, 2 ≤ x → x < 6 → outV (mer1 (mv s 98 0 (vA s 96 2)) a b) b j x = (mv s 98 0 (vA s 96 2)) j x := fun j x x0 x1 => by
                    unfold outV mer1
                    simp only [upV_at]
                    rw [if_neg (by omega), if_neg (by omega), if_neg (by omega), if_neg (by omega), if_neg (by omega)]
                  have ea : vA u 98 (8 + 4 * a + i) = vA s 98 (8 + 4 * a + i) := by rw [← mv2 (n := vA s 96 2) a0 a1 hi hin, o.1, merL_at (by omega), OL _ _ (by omega) (by omega), mv2 a0 a1 hi hin]
                  have eb : vA u 98 (8 + 4 * b + i) = vA s 98 (8 + 4 * b + i) := by rw [← mv2 (n := vA s 96 2) b0 b1 hi hin, o.1, merL_at (by omega), OL _ _ (by omega) (by omega), mv2 b0 b1 hi hin]
                  have ba := (m4 a a0 a1).2.2.2 i hi hin
                  have bb := (m4 b b0 b1).2.2.2 i hi hin
                  have p2 := (o.w a0 a1 (by omega) (w := 2 + i) (v := mn 99 (vA s 98 (8 + 4 * a + i) + vA s 98 (8 + 4 * b + i))) (i := 8 + 4 * a + i) (by omega) (by omega) (mi_2 hi hin).symm).w b0 b1 (by omega) (w := 2 + i) (v := 0) (i := 8 + 4 * b + i) (by omega) (by omega) (mi_2 hi hin).symm
                  have p3 := p2.eq (show _ = merL (outV (mer1 (mv s 98 0 (vA s 96 2)) a b) b) a b (i + 1) by
                    rw [← merL_s hab hi, OL _ _ (by omega) (by omega), OL _ _ (by omega) (by omega), mv2 a0 a1 hi hin, mv2 b0 b1 hi hin])
                  refine Gs_iload p171_141 rfl rfl ?_
                  refine Gs_iconst p171_143 ?_
                  refine Gs_icmp_ge (tgt := 227) p171_144 (by rfl) (by first | assumption | exact ⟨by omega, by omega⟩ | (split <;> exact ⟨by omega, by omega⟩)) (by first | assumption | exact ⟨by omega, by omega⟩ | (split <;> exact ⟨by omega, by omega⟩)) (fun hc144 => absurd ‹_› (by first | omega | assumption)) (fun hc144 => ?_)
                  refine Gs_aload_n p171_147 rfl rfl ?_
                  refine Gs_getR p171_148 (by first | rfl | assumption | exact (show isTale _ from by assumption).1 | exact (show isCamp _ _ from by assumption).1 | exact (show isRow _ _ from by assumption).1) (by rfl) ?_
                  refine Gs_bipush p171_151 (by decide) ?_
                  refine Gs_iconst p171_153 ?_
                  refine Gs_iload_n p171_154 rfl rfl ?_
                  refine Gs_imul p171_155 ?_
                  refine Gs_iadd p171_156 ?_
                  refine Gs_iload p171_157 rfl rfl ?_
                  refine Gs_iadd p171_159 ?_
                  refine Gs_iald p171_160 (by first | rfl | assumption | exact (show isTale _ from by assumption).1 | exact (show isCamp _ _ from by assumption).1 | exact (show isRow _ _ from by assumption).1) (by omega) (by omega) (by omega) ?_
                  rw [ea]
                  refine Gs_aload_n p171_161 rfl rfl ?_
                  refine Gs_getR p171_162 (by first | rfl | assumption | exact (show isTale _ from by assumption).1 | exact (show isCamp _ _ from by assumption).1 | exact (show isRow _ _ from by assumption).1) (by rfl) ?_
                  refine Gs_bipush p171_165 (by decide) ?_
                  refine Gs_iconst p171_167 ?_
                  refine Gs_iload_n p171_168 rfl rfl ?_
                  refine Gs_imul p171_169 ?_
                  refine Gs_iadd p171_170 ?_
                  refine Gs_iload p171_171 rfl rfl ?_
                  refine Gs_iadd p171_173 ?_
                  refine Gs_iald p171_174 (by first | rfl | assumption | exact (show isTale _ from by assumption).1 | exact (show isCamp _ _ from by assumption).1 | exact (show isRow _ _ from by assumption).1) (by omega) (by omega) (by omega) ?_
                  rw [eb]
                  refine Gs_iadd p171_175 ?_
                  refine Gs_ist5 p171_176 (by first | rfl | assumption) ?_
                  refine Gs_aload_n p171_178 rfl rfl ?_
                  refine Gs_getR p171_179 (by first | rfl | assumption | exact (show isTale _ from by assumption).1 | exact (show isCamp _ _ from by assumption).1 | exact (show isRow _ _ from by assumption).1) (by rfl) ?_
                  refine Gs_bipush p171_182 (by decide) ?_
                  refine Gs_iconst p171_184 ?_
                  refine Gs_iload_n p171_185 rfl rfl ?_
                  refine Gs_imul p171_186 ?_
                  refine Gs_iadd p171_187 ?_
                  refine Gs_iload p171_188 rfl rfl ?_
                  refine Gs_iadd p171_190 ?_
                  refine Gs_iload p171_191 rfl rfl ?_
                  refine Gs_bipush p171_193 (by decide) ?_
                  refine Gs_icmp_le (tgt := 203) p171_195 (by rfl) (by first | assumption | exact ⟨by omega, by omega⟩ | (split <;> exact ⟨by omega, by omega⟩)) (by first | assumption | exact ⟨by omega, by omega⟩ | (split <;> exact ⟨by omega, by omega⟩)) (fun h195 => ?_) (fun h195 => ?_)
                  · refine Gs_iload p171_203 rfl rfl ?_
                    refine Gs_top (mn 99 (vA s 98 (8 + 4 * a + i) + vA s 98 (8 + 4 * b + i))) (by rw [mn_if]; split <;> omega) ?_
                    refine Gs_iast p171_205 (by first | rfl | assumption | exact (show isTale _ from by assumption).1 | exact (show isCamp _ _ from by assumption).1 | exact (show isRow _ _ from by assumption).1) (by omega) (by omega) (by omega) ?_
                    refine Gs_aload_n p171_206 rfl rfl ?_
                    refine Gs_getR p171_207 (by first | rfl | assumption | exact (show isTale _ from by assumption).1 | exact (show isCamp _ _ from by assumption).1 | exact (show isRow _ _ from by assumption).1) (by rfl) ?_
                    refine Gs_bipush p171_210 (by decide) ?_
                    refine Gs_iconst p171_212 ?_
                    refine Gs_iload_n p171_213 rfl rfl ?_
                    refine Gs_imul p171_214 ?_
                    refine Gs_iadd p171_215 ?_
                    refine Gs_iload p171_216 rfl rfl ?_
                    refine Gs_iadd p171_218 ?_
                    refine Gs_iconst p171_219 ?_
                    refine Gs_iast p171_220 (by first | rfl | assumption | exact (show isTale _ from by assumption).1 | exact (show isCamp _ _ from by assumption).1 | exact (show isRow _ _ from by assumption).1) (by omega) (by omega) (by omega) ?_
                    refine Gs_iinc4 (b54 := none) p171_221 (by first | rfl | assumption) ?_
                    refine Gs_goto (tgt := 141) p171_224 (by rfl) ?_
                    exact ih _ _ p3
                  · refine Gs_bipush p171_198 (by decide) ?_
                    refine Gs_goto (tgt := 205) p171_200 (by rfl) ?_
                    refine Gs_top (mn 99 (vA s 98 (8 + 4 * a + i) + vA s 98 (8 + 4 * b + i))) (by rw [mn_if]; split <;> omega) ?_
                    refine Gs_iast p171_205 (by first | rfl | assumption | exact (show isTale _ from by assumption).1 | exact (show isCamp _ _ from by assumption).1 | exact (show isRow _ _ from by assumption).1) (by omega) (by omega) (by omega) ?_
                    refine Gs_aload_n p171_206 rfl rfl ?_
                    refine Gs_getR p171_207 (by first | rfl | assumption | exact (show isTale _ from by assumption).1 | exact (show isCamp _ _ from by assumption).1 | exact (show isRow _ _ from by assumption).1) (by rfl) ?_
                    refine Gs_bipush p171_210 (by decide) ?_
                    refine Gs_iconst p171_212 ?_
                    refine Gs_iload_n p171_213 rfl rfl ?_
                    refine Gs_imul p171_214 ?_
                    refine Gs_iadd p171_215 ?_
                    refine Gs_iload p171_216 rfl rfl ?_
                    refine Gs_iadd p171_218 ?_
                    refine Gs_iconst p171_219 ?_
                    refine Gs_iast p171_220 (by first | rfl | assumption | exact (show isTale _ from by assumption).1 | exact (show isCamp _ _ from by assumption).1 | exact (show isRow _ _ from by assumption).1) (by omega) (by omega) (by omega) ?_
                    refine Gs_iinc4 (b54 := none) p171_221 (by first | rfl | assumption) ?_
                    refine Gs_goto (tgt := 141) p171_224 (by rfl) ?_
                    exact ih _ _ p3
                · show ∀ u B, MOp (remS s) u 98 (vA s 96 2) (merL (outV (mer1 (mv s 98 0 (vA s 96 2)) a b) b) a b (4)) → Gs X d 171 141 [some (.ref 95), some (.int (iI a)), some (.int (iI b)), some (.int (iI (vA s 98 (0 + a) + vA s 98 (0 + b)))), some (.int (iI (4))), B] [] (u) _
                  intro u B o
                  refine Gs_iload p171_141 rfl rfl ?_
                  refine Gs_iconst p171_143 ?_
                  refine Gs_icmp_ge (tgt := 227) p171_144 (by rfl) (by first | assumption | exact ⟨by omega, by omega⟩ | (split <;> exact ⟨by omega, by omega⟩)) (by first | assumption | exact ⟨by omega, by omega⟩ | (split <;> exact ⟨by omega, by omega⟩)) (fun hc144 => ?_) (fun hc144 => absurd ‹_› (by first | omega | assumption))
                  refine Gs_aload_n p171_227 rfl rfl ?_
                  refine Gs_getR p171_228 (by first | rfl | assumption | exact (show isTale _ from by assumption).1 | exact (show isCamp _ _ from by assumption).1 | exact (show isRow _ _ from by assumption).1) (by rfl) ?_
                  refine Gs_iconst p171_231 ?_
                  refine Gs_iload_n p171_232 rfl rfl ?_
                  refine Gs_iadd p171_233 ?_
                  refine Gs_iald p171_234 (by first | rfl | assumption | exact (show isTale _ from by assumption).1 | exact (show isCamp _ _ from by assumption).1 | exact (show isRow _ _ from by assumption).1) (by omega) (by omega) (by omega) ?_
                  refine Gs_iret p171_235 rfl ⟨_, rfl, ?_⟩
                  have H := o.h
                  rw [e98] at H
                  exact ⟨by rw [← mv1 (n := vA s 96 2) a0 a1, o.1]; rfl, H⟩
          · refine Gs_bipush p171_39 (by decide) ?_
            refine Gs_iret p171_41 rfl ⟨_, rfl, ?_⟩
            exfalso; omega
      · refine Gs_iconst p171_21 ?_
        refine Gs_iret p171_22 rfl ⟨_, rfl, ?_⟩
        exfalso; omega

set_option maxHeartbeats 1000000 in
set_option maxRecDepth 4000 in
theorem m_join_no {X : vX} {s : St} (hT : MT s) (hm : MC s 98 (vA s 96 2)) {a b : Int} (ga : rg a) (gb : rg b) (hno : ¬ (((0 ≤ a ∧ a < vA s 96 2) ∧ (0 ≤ b ∧ b < vA s 96 2) ∧ a ≠ b) ∧ (0 < vA s 98 a ∧ 0 < vA s 98 b))) : OkI X 4 171 [.ref 95, .int (iI a), .int (iI b)] s (Is1 (if ((0 ≤ a ∧ a < vA s 96 2) ∧ (0 ≤ b ∧ b < vA s 96 2) ∧ a ≠ b) then -2 else -1) s) := by
  refine Ok.of (r := vm_m171) (ls := [some (.ref 95), some (.int (iI a)), some (.int (iI b)), none, none, none]) rfl (Nat.le_of_ble_eq_true rfl) rfl (fun d hd => ?_)
  obtain ⟨a1x, a2, a3, a4, a5, a6, a7, a8⟩ := id hT
  refine Gs_aload_n p171_0 rfl rfl ?_
  refine Gs_iload_n p171_1 rfl rfl ?_
  refine Gs_callV1I p171_2 (by rfl) (by rfl) (by first | rfl | assumption | exact (show isTale _ from by assumption).1 | exact (show isCamp _ _ from by assumption).1 | exact (show isRow _ _ from by assumption).1) (Nat.le_of_ble_eq_true rfl) (by decide) (c_misCompany hT ga) (by omega) ?_
  refine Gs_ifb_eq (tgt := 21) p171_5 (by rfl) (fun h5 => ?_) (fun h5 => ?_)
  · refine Gs_iconst p171_21 ?_
    refine Gs_iret p171_22 rfl ⟨_, rfl, ?_⟩
    refine ⟨?_, rfl⟩
    first | (rw [if_neg (by omega)]; done) | (rw [if_pos (by omega)]; done)
  · refine Gs_aload_n p171_8 rfl rfl ?_
    refine Gs_iload_n p171_9 rfl rfl ?_
    refine Gs_callV1I p171_10 (by rfl) (by rfl) (by first | rfl | assumption | exact (show isTale _ from by assumption).1 | exact (show isCamp _ _ from by assumption).1 | exact (show isRow _ _ from by assumption).1) (Nat.le_of_ble_eq_true rfl) (by decide) (c_misCompany hT gb) (by omega) ?_
    refine Gs_ifb_eq (tgt := 21) p171_13 (by rfl) (fun h13 => ?_) (fun h13 => ?_)
    · refine Gs_iconst p171_21 ?_
      refine Gs_iret p171_22 rfl ⟨_, rfl, ?_⟩
      refine ⟨?_, rfl⟩
      first | (rw [if_neg (by omega)]; done) | (rw [if_pos (by omega)]; done)
    · refine Gs_iload_n p171_16 rfl rfl ?_
      refine Gs_iload_n p171_17 rfl rfl ?_
      refine Gs_icmp_ne (tgt := 23) p171_18 (by rfl) (by first | assumption | exact ⟨by omega, by omega⟩ | (split <;> exact ⟨by omega, by omega⟩)) (by first | assumption | exact ⟨by omega, by omega⟩ | (split <;> exact ⟨by omega, by omega⟩)) (fun h18 => ?_) (fun h18 => ?_)
      · refine Gs_aload_n p171_23 rfl rfl ?_
        refine Gs_iload_n p171_24 rfl rfl ?_
        refine Gs_callV1I p171_25 (by rfl) (by rfl) (by first | rfl | assumption | exact (show isTale _ from by assumption).1 | exact (show isCamp _ _ from by assumption).1 | exact (show isRow _ _ from by assumption).1) (Nat.le_of_ble_eq_true rfl) (by decide) (c_misIn hm (by omega) (by omega)) (by omega) ?_
        refine Gs_ifb_eq (tgt := 39) p171_28 (by rfl) (fun h28 => ?_) (fun h28 => ?_)
        · refine Gs_bipush p171_39 (by decide) ?_
          refine Gs_iret p171_41 rfl ⟨_, rfl, ?_⟩
          refine ⟨?_, rfl⟩
          first | (rw [if_neg (by omega)]; done) | (rw [if_pos (by omega)]; done)
        · refine Gs_aload_n p171_31 rfl rfl ?_
          refine Gs_iload_n p171_32 rfl rfl ?_
          refine Gs_callV1I p171_33 (by rfl) (by rfl) (by first | rfl | assumption | exact (show isTale _ from by assumption).1 | exact (show isCamp _ _ from by assumption).1 | exact (show isRow _ _ from by assumption).1) (Nat.le_of_ble_eq_true rfl) (by decide) (c_misIn hm (by omega) (by omega)) (by omega) ?_
          refine Gs_ifb_ne (tgt := 42) p171_36 (by rfl) (fun h36 => ?_) (fun h36 => ?_)
          · exfalso; omega
          · refine Gs_bipush p171_39 (by decide) ?_
            refine Gs_iret p171_41 rfl ⟨_, rfl, ?_⟩
            refine ⟨?_, rfl⟩
            first | (rw [if_neg (by omega)]; done) | (rw [if_pos (by omega)]; done)
      · refine Gs_iconst p171_21 ?_
        refine Gs_iret p171_22 rfl ⟨_, rfl, ?_⟩
        refine ⟨?_, rfl⟩
        first | (rw [if_neg (by omega)]; done) | (rw [if_pos (by omega)]; done)

theorem T_join {X : vX} {K : Int} {s : St} (hR : Rel K s) (hK : K < 512) {x1 x2 : Int} (g1 : rg x1) (g2 : rg x2) : Both X K s 103 171 [.int (iI x1), .int (iI x2)] := by
  obtain ⟨h0, h1, h2, h3, h4, h5, h6⟩ := id hR
  obtain ⟨p1, p2, p3, p4, p5⟩ := hR.ok20 hK
  have hMT := hR.MT
  by_cases c : ((0 ≤ x1 ∧ x1 < vA s 96 2) ∧ (0 ≤ x2 ∧ x2 < vA s 96 2) ∧ x1 ≠ x2) ∧ (1 ≤ cg s 14 x1 0 ∧ 1 ≤ cg s 14 x2 0)
  · obtain ⟨⟨⟨a0, a1⟩, ⟨b0, b1⟩, hab⟩, c1, c2⟩ := c
    have v1 : cv s 14 (vA s 96 2) x1 0 = cg s 14 x1 0 := cv_at a0 a1 (by omega) (by omega)
    have v2 : cv s 14 (vA s 96 2) x2 0 = cg s 14 x2 0 := cv_at b0 b1 (by omega) (by omega)
    have gg := (h4.good.mer a0 a1 b0 b1 hab (by omega) (by omega)).up (show K ≤ K + 1 by omega)
    have hn := h4.1.2.1
    have hh := h4.1.2.2.2.1
    have hh2 := h4.2.2.1
    refine Both.pushed (D := 5) (D' := 4) hR hK (k_join h4.1 ⟨p1, p2, p3, p4⟩ a0 a1 b0 b1 hab c1 c2) (fun t o => ?_) ?_ gg hh (by omega) (by decide) (by decide)
    · obtain ⟨q1, q2, q3, q4, q5, q6, q7, q8, q9, q10⟩ := o.ref hR
      have e0 : vA t 98 x1 = cg s 14 x1 0 := by rw [q8, h4.v0 a0 a1 (by omega) (by omega), mi_0]
      have e2 : vA t 98 x2 = cg s 14 x2 0 := by rw [q8, h4.v0 b0 b1 (by omega) (by omega), mi_0]
      have M := m_join (X := X) q1 q2 ⟨by omega, by omega⟩ a0 (by rw [q3]; exact a1) b0 (by rw [q3]; exact b1) hab (by omega) (by omega)
      rw [q3, q6, q7] at M
      exact M
    · have := (gg x1 a0 a1).1 1 (by omega) (by omega)
      have l := lwA
      exact ⟨by omega, by omega⟩
  · refine Both.q hR (k_join_no h4.1 g1 g2 c) (m_join_no hMT h4.mc g1 g2 ?_) (by decide) (by decide) rfl ?_ (Kept.rfl' s)
    · intro q
      obtain ⟨⟨⟨a0, a1⟩, ⟨b0, b1⟩, hab⟩, c1, c2⟩ := q
      refine c ⟨⟨⟨a0, a1⟩, ⟨b0, b1⟩, hab⟩, ?_, ?_⟩
      · rw [h4.v0 a0 a1 (by omega) (by omega), mi_0]; omega
      · rw [h4.v0 b0 b1 (by omega) (by omega), mi_0]; omega
    · split <;> exact ⟨by omega, by omega⟩