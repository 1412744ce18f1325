/-! write, wipe, see, forget -/
theorem row1 : isRow 1 200 := ⟨rfl, rfl, by decide⟩
theorem row3 : isRow 3 6 := ⟨rfl, rfl, by decide⟩
def addS (s : St) (r a : Nat) (v : Int) : St := sF (sA s a (vF s r 1) v) r 1 (vF s r 1 + 1)
def addM (s : St) (f a : Nat) (v : Int) : St := sF (sA s a (vF s 95 f) v) 95 f (vF s 95 f + 1)
theorem iff_if {p q : Prop} [Decidable p] [Decidable q] {α : Type} {a b : α} (h : p ↔ q) : (if p then a else b) = (if q then a else b) := by
  by_cases hp : p
  · rw [if_pos hp, if_pos (h.1 hp)]
  · rw [if_neg hp, if_neg (fun e => hp (h.2 e))]
set_option maxHeartbeats 1000000 in
set_option maxRecDepth 4000 in
theorem k_write {X : vX} {s : St} {v : Int} (hv : rg v) (b0 : 0 ≤ vF s 1 1) (b1 : vF s 1 1 ≤ 200) : OkI X 1 93 [.ref 0, .int (iI v)] s (Is1 (if (32 ≤ v ∧ v ≤ 126) then (if 200 ≤ vF s 1 1 then -3 else vF s 1 1 + 1) else -1) (if (32 ≤ v ∧ v ≤ 126) ∧ ¬ 200 ≤ vF s 1 1 then addS s 1 2 v else s)) := by
  refine Ok.of (r := vm_m93) (ls := [some (.ref 0), some (.int (iI v))]) rfl (Nat.le_of_ble_eq_true rfl) rfl (fun d hd => ?_)
  refine Gs_iload_n p93_0 rfl rfl ?_
  refine Gs_bipush p93_1 (by decide) ?_
  refine Gs_bipush p93_3 (by decide) ?_
  refine Gs_callS3I p93_5 (by rfl) (Nat.le_of_ble_eq_true rfl) (by decide) (c_within hv ⟨by omega, by omega⟩ ⟨by omega, by omega⟩) (by omega) ?_
  refine Gs_ifb_ne (tgt := 13) p93_8 (by rfl) (fun h8 => ?_) (fun h8 => ?_)
  · refine Gs_aload_n p93_13 rfl rfl ?_
    refine Gs_getR p93_14 (by first | rfl | assumption | exact (show isTale _ from by assumption).1 | exact (show isCamp _ _ from by assumption).1 | exact (show isRow _ _ from by assumption).1) (by rfl) ?_
    refine Gs_callV0I p93_17 (by rfl) (by rfl) (by rfl) (Nat.le_of_ble_eq_true rfl) (by decide) (c_isFull row1 ⟨by omega, by omega⟩) (by omega) ?_
    refine Gs_ifb_eq (tgt := 26) p93_20 (by rfl) (fun h20 => ?_) (fun h20 => ?_)
    · refine Gs_aload_n p93_26 rfl rfl ?_
      refine Gs_getR p93_27 (by first | rfl | assumption | exact (show isTale _ from by assumption).1 | exact (show isCamp _ _ from by assumption).1 | exact (show isRow _ _ from by assumption).1) (by rfl) ?_
      refine Gs_iload_n p93_30 rfl rfl ?_
      refine Gs_callV1W p93_31 (by rfl) (by rfl) (by rfl) (Nat.le_of_ble_eq_true rfl) (by decide) (c_aadd (a := 2) row1 rfl (by omega) (by omega)) (by omega) ?_
      refine Gs_aload_n p93_34 rfl rfl ?_
      refine Gs_getR p93_35 (by first | rfl | assumption | exact (show isTale _ from by assumption).1 | exact (show isCamp _ _ from by assumption).1 | exact (show isRow _ _ from by assumption).1) (by rfl) ?_
      refine Gs_callV0I p93_38 (by rfl) (by rfl) (by rfl) (Nat.le_of_ble_eq_true rfl) (by decide) (c_size row1) (by omega) ?_
      refine Gs_iret p93_41 rfl ⟨_, rfl, ?_⟩
      refine ⟨?_, ?_⟩ <;> ((repeat' split) <;> first | rfl | (exfalso; omega) | omega)
    · refine Gs_bipush p93_23 (by decide) ?_
      refine Gs_iret p93_25 rfl ⟨_, rfl, ?_⟩
      refine ⟨?_, ?_⟩ <;> ((repeat' split) <;> first | rfl | (exfalso; omega) | omega)
  · refine Gs_iconst p93_11 ?_
    refine Gs_iret p93_12 rfl ⟨_, rfl, ?_⟩
    refine ⟨?_, ?_⟩ <;> ((repeat' split) <;> first | rfl | (exfalso; omega) | omega)

set_option maxHeartbeats 1000000 in
set_option maxRecDepth 4000 in
theorem m_write {X : vX} {s : St} {v : Int} (hv : rg v) (b0 : 0 ≤ vF s 95 11) (b1 : vF s 95 11 ≤ 200) : OkI X 2 134 [.ref 95, .int (iI v)] s (Is1 (if (32 ≤ v ∧ v ≤ 126) then (if vF s 95 11 = 200 then -3 else vF s 95 11 + 1) else -1) (if (32 ≤ v ∧ v ≤ 126) ∧ ¬ vF s 95 11 = 200 then addM s 11 103 v else s)) := by
  refine Ok.of (r := vm_m134) (ls := [some (.ref 95), some (.int (iI v))]) rfl (Nat.le_of_ble_eq_true rfl) rfl (fun d hd => ?_)
  have hb : rg (vF s 95 11) := ⟨by omega, by omega⟩
  refine Gs_iload_n p134_0 rfl rfl ?_
  refine Gs_i2l p134_1 (by first | assumption | exact ⟨by omega, by omega⟩ | (split <;> exact ⟨by omega, by omega⟩)) ?_
  refine Gs_ldc2 (z := (32)) p134_2 (by decide) ?_
  refine Gs_ldc2 (z := (126)) p134_5 (by decide) ?_
  refine Gs_callS3I p134_8 (by rfl) (Nat.le_of_ble_eq_true rfl) (by decide) (c_in (rg_L hv) ⟨by omega, by omega⟩ ⟨by omega, by omega⟩) (by omega) ?_
  refine Gs_ifb_ne (tgt := 16) p134_11 (by rfl) (fun h11 => ?_) (fun h11 => ?_)
  · refine Gs_aload_n p134_16 rfl rfl ?_
    refine Gs_getI p134_17 (by first | rfl | assumption | exact (show isTale _ from by assumption).1 | exact (show isCamp _ _ from by assumption).1 | exact (show isRow _ _ from by assumption).1) (by rfl) ?_
    refine Gs_sipush p134_20 (by decide) ?_
    refine Gs_icmp_ne (tgt := 29) p134_23 (by rfl) (by first | assumption | exact ⟨by omega, by omega⟩ | (split <;> exact ⟨by omega, by omega⟩)) (by first | assumption | exact ⟨by omega, by omega⟩ | (split <;> exact ⟨by omega, by omega⟩)) (fun h23 => ?_) (fun h23 => ?_)
    · refine Gs_aload_n p134_29 rfl rfl ?_
      refine Gs_getR p134_30 (by first | rfl | assumption | exact (show isTale _ from by assumption).1 | exact (show isCamp _ _ from by assumption).1 | exact (show isRow _ _ from by assumption).1) (by rfl) ?_
      refine Gs_aload_n p134_33 rfl rfl ?_
      refine Gs_getI p134_34 (by first | rfl | assumption | exact (show isTale _ from by assumption).1 | exact (show isCamp _ _ from by assumption).1 | exact (show isRow _ _ from by assumption).1) (by rfl) ?_
      refine Gs_iload_n p134_37 rfl rfl ?_
      refine Gs_iast p134_38 (by first | rfl | assumption | exact (show isTale _ from by assumption).1 | exact (show isCamp _ _ from by assumption).1 | exact (show isRow _ _ from by assumption).1) (by omega) (by omega) (by omega) ?_
      refine Gs_aload_n p134_39 rfl rfl ?_
      refine Gs_dup p134_40 rfl ?_
      refine Gs_getI p134_41 (by first | rfl | assumption | exact (show isTale _ from by assumption).1 | exact (show isCamp _ _ from by assumption).1 | exact (show isRow _ _ from by assumption).1) (by rfl) ?_
      refine Gs_iconst p134_44 ?_
      refine Gs_iadd p134_45 ?_
      refine Gs_putI p134_46 (by first | rfl | assumption | exact (show isTale _ from by assumption).1 | exact (show isCamp _ _ from by assumption).1 | exact (show isRow _ _ from by assumption).1) (by rfl) (by rfl) (by rfl) ?_
      refine Gs_aload_n p134_49 rfl rfl ?_
      refine Gs_getI p134_50 (by first | rfl | assumption | exact (show isTale _ from by assumption).1 | exact (show isCamp _ _ from by assumption).1 | exact (show isRow _ _ from by assumption).1) (by rfl) ?_
      refine Gs_iret p134_53 rfl ⟨_, rfl, ?_⟩
      refine ⟨?_, ?_⟩ <;> ((repeat' split) <;> first | rfl | (exfalso; omega) | omega)
    · refine Gs_bipush p134_26 (by decide) ?_
      refine Gs_iret p134_28 rfl ⟨_, rfl, ?_⟩
      refine ⟨?_, ?_⟩ <;> ((repeat' split) <;> first | rfl | (exfalso; omega) | omega)
  · refine Gs_iconst p134_14 ?_
    refine Gs_iret p134_15 rfl ⟨_, rfl, ?_⟩
    refine ⟨?_, ?_⟩ <;> ((repeat' split) <;> first | rfl | (exfalso; omega) | omega)

set_option maxHeartbeats 1000000 in
set_option maxRecDepth 4000 in
theorem k_see {X : vX} {s : St} {v : Int} (hv : rg v) (b0 : 0 ≤ vF s 3 1) (b1 : vF s 3 1 ≤ 6) : OkI X 1 112 [.ref 0, .int (iI v)] s (Is1 (if (0 ≤ v ∧ v < 4) then (if 6 ≤ vF s 3 1 then -3 else vF s 3 1 + 1) else -1) (if (0 ≤ v ∧ v < 4) ∧ ¬ 6 ≤ vF s 3 1 then addS s 3 4 v else s)) := by
  refine Ok.of (r := vm_m112) (ls := [some (.ref 0), some (.int (iI v))]) rfl (Nat.le_of_ble_eq_true rfl) rfl (fun d hd => ?_)
  refine Gs_iload_n p112_0 rfl rfl ?_
  refine Gs_callS1I p112_1 (by rfl) (Nat.le_of_ble_eq_true rfl) (by decide) (c_isWood hv) (by omega) ?_
  refine Gs_ifb_ne (tgt := 9) p112_4 (by rfl) (fun h4 => ?_) (fun h4 => ?_)
  · refine Gs_aload_n p112_9 rfl rfl ?_
    refine Gs_getR p112_10 (by first | rfl | assumption | exact (show isTale _ from by assumption).1 | exact (show isCamp _ _ from by assumption).1 | exact (show isRow _ _ from by assumption).1) (by rfl) ?_
    refine Gs_callV0I p112_13 (by rfl) (by rfl) (by rfl) (Nat.le_of_ble_eq_true rfl) (by decide) (c_isFull row3 ⟨by omega, by omega⟩) (by omega) ?_
    refine Gs_ifb_eq (tgt := 22) p112_16 (by rfl) (fun h16 => ?_) (fun h16 => ?_)
    · refine Gs_aload_n p112_22 rfl rfl ?_
      refine Gs_getR p112_23 (by first | rfl | assumption | exact (show isTale _ from by assumption).1 | exact (show isCamp _ _ from by assumption).1 | exact (show isRow _ _ from by assumption).1) (by rfl) ?_
      refine Gs_iload_n p112_26 rfl rfl ?_
      refine Gs_callV1W p112_27 (by rfl) (by rfl) (by rfl) (Nat.le_of_ble_eq_true rfl) (by decide) (c_aadd (a := 4) row3 rfl (by omega) (by omega)) (by omega) ?_
      refine Gs_aload_n p112_30 rfl rfl ?_
      refine Gs_getR p112_31 (by first | rfl | assumption | exact (show isTale _ from by assumption).1 | exact (show isCamp _ _ from by assumption).1 | exact (show isRow _ _ from by assumption).1) (by rfl) ?_
      refine Gs_callV0I p112_34 (by rfl) (by rfl) (by rfl) (Nat.le_of_ble_eq_true rfl) (by decide) (c_size row3) (by omega) ?_
      refine Gs_iret p112_37 rfl ⟨_, rfl, ?_⟩
      refine ⟨?_, ?_⟩ <;> ((repeat' split) <;> first | rfl | (exfalso; omega) | omega)
    · refine Gs_bipush p112_19 (by decide) ?_
      refine Gs_iret p112_21 rfl ⟨_, rfl, ?_⟩
      refine ⟨?_, ?_⟩ <;> ((repeat' split) <;> first | rfl | (exfalso; omega) | omega)
  · refine Gs_iconst p112_7 ?_
    refine Gs_iret p112_8 rfl ⟨_, rfl, ?_⟩
    refine ⟨?_, ?_⟩ <;> ((repeat' split) <;> first | rfl | (exfalso; omega) | omega)

set_option maxHeartbeats 1000000 in
set_option maxRecDepth 4000 in
theorem m_see {X : vX} {s : St} {v : Int} (hv : rg v) (b0 : 0 ≤ vF s 95 9) (b1 : vF s 95 9 ≤ 6) : OkI X 2 190 [.ref 95, .int (iI v)] s (Is1 (if (0 ≤ v ∧ v ≤ 3) then (if vF s 95 9 = 6 then -3 else vF s 95 9 + 1) else -1) (if (0 ≤ v ∧ v ≤ 3) ∧ ¬ vF s 95 9 = 6 then addM s 9 102 v else s)) := by
  refine Ok.of (r := vm_m190) (ls := [some (.ref 95), some (.int (iI v))]) rfl (Nat.le_of_ble_eq_true rfl) rfl (fun d hd => ?_)
  have hb : rg (vF s 95 9) := ⟨by omega, by omega⟩
  refine Gs_iload_n p190_0 rfl rfl ?_
  refine Gs_callS1I p190_1 (by rfl) (Nat.le_of_ble_eq_true rfl) (by decide) (c_misWood hv) (by omega) ?_
  refine Gs_ifb_ne (tgt := 9) p190_4 (by rfl) (fun h4 => ?_) (fun h4 => ?_)
  · refine Gs_aload_n p190_9 rfl rfl ?_
    refine Gs_getI p190_10 (by first | rfl | assumption | exact (show isTale _ from by assumption).1 | exact (show isCamp _ _ from by assumption).1 | exact (show isRow _ _ from by assumption).1) (by rfl) ?_
    refine Gs_bipush p190_13 (by decide) ?_
    refine Gs_icmp_ne (tgt := 21) p190_15 (by rfl) (by first | assumption | exact ⟨by omega, by omega⟩ | (split <;> exact ⟨by omega, by omega⟩)) (by first | assumption | exact ⟨by omega, by omega⟩ | (split <;> exact ⟨by omega, by omega⟩)) (fun h15 => ?_) (fun h15 => ?_)
    · refine Gs_aload_n p190_21 rfl rfl ?_
      refine Gs_getR p190_22 (by first | rfl | assumption | exact (show isTale _ from by assumption).1 | exact (show isCamp _ _ from by assumption).1 | exact (show isRow _ _ from by assumption).1) (by rfl) ?_
      refine Gs_aload_n p190_25 rfl rfl ?_
      refine Gs_getI p190_26 (by first | rfl | assumption | exact (show isTale _ from by assumption).1 | exact (show isCamp _ _ from by assumption).1 | exact (show isRow _ _ from by assumption).1) (by rfl) ?_
      refine Gs_iload_n p190_29 rfl rfl ?_
      refine Gs_iast p190_30 (by first | rfl | assumption | exact (show isTale _ from by assumption).1 | exact (show isCamp _ _ from by assumption).1 | exact (show isRow _ _ from by assumption).1) (by omega) (by omega) (by omega) ?_
      refine Gs_aload_n p190_31 rfl rfl ?_
      refine Gs_dup p190_32 rfl ?_
      refine Gs_getI p190_33 (by first | rfl | assumption | exact (show isTale _ from by assumption).1 | exact (show isCamp _ _ from by assumption).1 | exact (show isRow _ _ from by assumption).1) (by rfl) ?_
      refine Gs_iconst p190_36 ?_
      refine Gs_iadd p190_37 ?_
      refine Gs_putI p190_38 (by first | rfl | assumption | exact (show isTale _ from by assumption).1 | exact (show isCamp _ _ from by assumption).1 | exact (show isRow _ _ from by assumption).1) (by rfl) (by rfl) (by rfl) ?_
      refine Gs_aload_n p190_41 rfl rfl ?_
      refine Gs_getI p190_42 (by first | rfl | assumption | exact (show isTale _ from by assumption).1 | exact (show isCamp _ _ from by assumption).1 | exact (show isRow _ _ from by assumption).1) (by rfl) ?_
      refine Gs_iret p190_45 rfl ⟨_, rfl, ?_⟩
      refine ⟨?_, ?_⟩ <;> ((repeat' split) <;> first | rfl | (exfalso; omega) | omega)
    · refine Gs_bipush p190_18 (by decide) ?_
      refine Gs_iret p190_20 rfl ⟨_, rfl, ?_⟩
      refine ⟨?_, ?_⟩ <;> ((repeat' split) <;> first | rfl | (exfalso; omega) | omega)
  · refine Gs_iconst p190_7 ?_
    refine Gs_iret p190_8 rfl ⟨_, rfl, ?_⟩
    refine ⟨?_, ?_⟩ <;> ((repeat' split) <;> first | rfl | (exfalso; omega) | omega)

set_option maxHeartbeats 1000000 in
set_option maxRecDepth 4000 in
theorem k_wipe {X : vX} {s : St}  : OkI X 1 94 [.ref 0] s (Is1 (vF s 1 1) (sF s 1 1 0)) := by
  refine Ok.of (r := vm_m94) (ls := [some (.ref 0), none]) rfl (Nat.le_of_ble_eq_true rfl) rfl (fun d hd => ?_)
  refine Gs_aload_n p94_0 rfl rfl ?_
  refine Gs_getR p94_1 (by first | rfl | assumption | exact (show isTale _ from by assumption).1 | exact (show isCamp _ _ from by assumption).1 | exact (show isRow _ _ from by assumption).1) (by rfl) ?_
  refine Gs_callV0I p94_4 (by rfl) (by rfl) (by rfl) (Nat.le_of_ble_eq_true rfl) (by decide) (c_size row1) (by omega) ?_
  refine Gs_ist1 p94_7 (by first | rfl | assumption) ?_
  refine Gs_aload_n p94_8 rfl rfl ?_
  refine Gs_getR p94_9 (by first | rfl | assumption | exact (show isTale _ from by assumption).1 | exact (show isCamp _ _ from by assumption).1 | exact (show isRow _ _ from by assumption).1) (by rfl) ?_
  refine Gs_callV0W p94_12 (by rfl) (by rfl) (by rfl) (Nat.le_of_ble_eq_true rfl) (by decide) (c_clear row1) (by omega) ?_
  refine Gs_iload_n p94_15 rfl rfl ?_
  refine Gs_iret p94_16 rfl ⟨_, rfl, ?_⟩
  exact ⟨rfl, rfl⟩

set_option maxHeartbeats 1000000 in
set_option maxRecDepth 4000 in
theorem m_wipe {X : vX} {s : St}  : OkI X 0 135 [.ref 95] s (Is1 (vF s 95 11) (sF s 95 11 0)) := by
  refine Ok.of (r := vm_m135) (ls := [some (.ref 95), none]) rfl (Nat.le_of_ble_eq_true rfl) rfl (fun d hd => ?_)
  refine Gs_aload_n p135_0 rfl rfl ?_
  refine Gs_getI p135_1 (by first | rfl | assumption | exact (show isTale _ from by assumption).1 | exact (show isCamp _ _ from by assumption).1 | exact (show isRow _ _ from by assumption).1) (by rfl) ?_
  refine Gs_ist1 p135_4 (by first | rfl | assumption) ?_
  refine Gs_aload_n p135_5 rfl rfl ?_
  refine Gs_iconst p135_6 ?_
  refine Gs_putI p135_7 (by first | rfl | assumption | exact (show isTale _ from by assumption).1 | exact (show isCamp _ _ from by assumption).1 | exact (show isRow _ _ from by assumption).1) (by rfl) (by rfl) (by rfl) ?_
  refine Gs_iload_n p135_10 rfl rfl ?_
  refine Gs_iret p135_11 rfl ⟨_, rfl, ?_⟩
  exact ⟨rfl, rfl⟩

set_option maxHeartbeats 1000000 in
set_option maxRecDepth 4000 in
theorem k_forget {X : vX} {s : St}  : OkI X 1 113 [.ref 0] s (Is1 (vF s 3 1) (sF s 3 1 0)) := by
  refine Ok.of (r := vm_m113) (ls := [some (.ref 0), none]) rfl (Nat.le_of_ble_eq_true rfl) rfl (fun d hd => ?_)
  refine Gs_aload_n p113_0 rfl rfl ?_
  refine Gs_getR p113_1 (by first | rfl | assumption | exact (show isTale _ from by assumption).1 | exact (show isCamp _ _ from by assumption).1 | exact (show isRow _ _ from by assumption).1) (by rfl) ?_
  refine Gs_callV0I p113_4 (by rfl) (by rfl) (by rfl) (Nat.le_of_ble_eq_true rfl) (by decide) (c_size row3) (by omega) ?_
  refine Gs_ist1 p113_7 (by first | rfl | assumption) ?_
  refine Gs_aload_n p113_8 rfl rfl ?_
  refine Gs_getR p113_9 (by first | rfl | assumption | exact (show isTale _ from by assumption).1 | exact (show isCamp _ _ from by assumption).1 | exact (show isRow _ _ from by assumption).1) (by rfl) ?_
  refine Gs_callV0W p113_12 (by rfl) (by rfl) (by rfl) (Nat.le_of_ble_eq_true rfl) (by decide) (c_clear row3) (by omega) ?_
  refine Gs_iload_n p113_15 rfl rfl ?_
  refine Gs_iret p113_16 rfl ⟨_, rfl, ?_⟩
  exact ⟨rfl, rfl⟩

set_option maxHeartbeats 1000000 in
set_option maxRecDepth 4000 in
theorem m_forget {X : vX} {s : St}  : OkI X 0 191 [.ref 95] s (Is1 (vF s 95 9) (sF s 95 9 0)) := by
  refine Ok.of (r := vm_m191) (ls := [some (.ref 95), none]) rfl (Nat.le_of_ble_eq_true rfl) rfl (fun d hd => ?_)
  refine Gs_aload_n p191_0 rfl rfl ?_
  refine Gs_getI p191_1 (by first | rfl | assumption | exact (show isTale _ from by assumption).1 | exact (show isCamp _ _ from by assumption).1 | exact (show isRow _ _ from by assumption).1) (by rfl) ?_
  refine Gs_ist1 p191_4 (by first | rfl | assumption) ?_
  refine Gs_aload_n p191_5 rfl rfl ?_
  refine Gs_iconst p191_6 ?_
  refine Gs_putI p191_7 (by first | rfl | assumption | exact (show isTale _ from by assumption).1 | exact (show isCamp _ _ from by assumption).1 | exact (show isRow _ _ from by assumption).1) (by rfl) (by rfl) (by rfl) ?_
  refine Gs_iload_n p191_10 rfl rfl ?_
  refine Gs_iret p191_11 rfl ⟨_, rfl, ?_⟩
  exact ⟨rfl, rfl⟩

theorem Rel.swap {K : Int} {s t : St} (h : Rel K s) (h1 : RelText t) (h2 : RelSeen t) (eA : SameA (fun a => a ≠ 2 ∧ a ≠ 4 ∧ a ≠ 102 ∧ a ≠ 103) s t) (eF : SameF (fun a k => a ≠ 1 ∧ a ≠ 3 ∧ ¬ (a = 95 ∧ (k = 9 ∨ k = 11))) s t) : Rel (K + 1) t := by
  obtain ⟨h0, _, _, h3, h4, h5, h6⟩ := h
  have e96 : ∀ z, vA t 96 z = vA s 96 z := eA 96 (by decide)
  have e5 : vF t 5 4 = vF s 5 4 := eF 5 4 (by decide)
  refine ⟨by omega, h1, h2, h3.cong e5 (eF _ _ (by decide)) (eF _ _ (by decide)) (eA _ (by decide)) (eA _ (by decide)) e96, ?_, ?_, ?_⟩
  · rw [e96, e5]; exact CampRel_more (h4.cong (eF _ _ (by decide)) (eF _ _ (by decide)) (eA _ (by decide)) (eA _ (by decide)))
  · rw [e96, e5]; exact (h5.cong (fun a ha => eA a (by omega)) (fun a k ha => eF a k (by omega))).more
  · rw [e96, e5]; exact (h6.cong (fun a ha => eA a (by omega)) (fun a k ha => eF a k (by omega))).more
theorem SameA.of {P : Nat → Prop} {s t : St} (h : ∀ a z, P a → vA t a z = vA s a z) : SameA P s t := fun a ha z => h a z ha
theorem RelText.add {s : St} (h : RelText s) {v : Int} (hn : vF s 1 1 < 200) (hv : 32 ≤ v ∧ v ≤ 126) : RelText (addM (addS s 1 2 v) 11 103 v) := by
  obtain ⟨a1, a2, a3, a4⟩ := h
  have e1 : vF (addM (addS s 1 2 v) 11 103 v) 1 1 = vF s 1 1 + 1 := rfl
  have e2 : vF (addM (addS s 1 2 v) 11 103 v) 95 11 = vF s 95 11 + 1 := rfl
  have e3 : ∀ z, vA (addM (addS s 1 2 v) 11 103 v) 2 z = if z = vF s 1 1 then v else vA s 2 z := fun z => by
    unfold addM addS
    simp [vA_sA, vA_sF, vF_sA, vF_sF]
  have e4 : ∀ z, vA (addM (addS s 1 2 v) 11 103 v) 103 z = if z = vF s 95 11 then v else vA s 103 z := fun z => by
    unfold addM addS
    simp [vA_sA, vA_sF, vF_sA, vF_sF]
  refine ⟨by rw [e1]; omega, by rw [e1]; omega, by rw [e1, e2]; omega, fun j b0 b1 => ?_⟩
  rw [e1] at b1
  rw [e3, e4, a3]
  by_cases e : j = vF s 1 1
  · rw [if_pos e, if_pos e]; exact ⟨rfl, hv.1, hv.2⟩
  · rw [if_neg e, if_neg e]; exact a4 j b0 (by omega)
theorem RelSeen.add {s : St} (h : RelSeen s) {v : Int} (hn : vF s 3 1 < 6) (hv : 0 ≤ v ∧ v < 4) : RelSeen (addM (addS s 3 4 v) 9 102 v) := by
  obtain ⟨a1, a2, a3, a4⟩ := h
  have e1 : vF (addM (addS s 3 4 v) 9 102 v) 3 1 = vF s 3 1 + 1 := rfl
  have e2 : vF (addM (addS s 3 4 v) 9 102 v) 95 9 = vF s 95 9 + 1 := rfl
  have e3 : ∀ z, vA (addM (addS s 3 4 v) 9 102 v) 4 z = if z = vF s 3 1 then v else vA s 4 z := fun z => by
    unfold addM addS
    simp [vA_sA, vA_sF, vF_sA, vF_sF]
  have e4 : ∀ z, vA (addM (addS s 3 4 v) 9 102 v) 102 z = if z = vF s 95 9 then v else vA s 102 z := fun z => by
    unfold addM addS
    simp [vA_sA, vA_sF, vF_sA, vF_sF]
  refine ⟨by rw [e1]; omega, by rw [e1]; omega, by rw [e1, e2]; omega, fun j b0 b1 => ?_⟩
  rw [e1] at b1
  rw [e3, e4, a3]
  by_cases e : j = vF s 3 1
  · rw [if_pos e, if_pos e]; exact ⟨rfl, hv.1, hv.2⟩
  · rw [if_neg e, if_neg e]; exact a4 j b0 (by omega)
theorem addSM_A {s : St} {r a f b : Nat} {v : Int} {i : Nat} {z : Int} (h1 : i ≠ a) (h2 : i ≠ b) : vA (addM (addS s r a v) f b v) i z = vA s i z := by
  show vA (sF (sA (sF (sA s a _ v) r 1 _) b _ v) 95 f _) i z = _
  rw [vA_sF, vA_sA, if_neg (fun e => h2 e.1), vA_sF, vA_sA, if_neg (fun e => h1 e.1)]
theorem addSM_F {s : St} {r a f b : Nat} {v : Int} {i k : Nat} (h1 : ¬ (i = r ∧ k = 1)) (h2 : ¬ (i = 95 ∧ k = f)) : vF (addM (addS s r a v) f b v) i k = vF s i k := by
  show vF (sF (sA (sF (sA s a _ v) r 1 _) b _ v) 95 f _) i k = _
  rw [vF_sF, if_neg h2, vF_sA, vF_sF, if_neg h1, vF_sA]
theorem T_write {X : vX} {K : Int} {s : St} (hR : Rel K s) (hK : K < 512) {x1 : Int} (g1 : rg x1) : Both X K s 93 134 [.int (iI x1)] := by
  obtain ⟨h0, h1, h2, h3, h4, h5, h6⟩ := id hR
  obtain ⟨a1, a2, a3, a4⟩ := id h1
  have A := k_write (X := X) g1 a1 a2
  by_cases c : (32 ≤ x1 ∧ x1 ≤ 126) ∧ ¬ 200 ≤ vF s 1 1
  · rw [if_pos c, if_pos c.1, if_neg c.2] at A
    have e : vF (addS s 1 2 x1) 95 11 = vF s 1 1 := a3
    have B := m_write (X := X) (s := addS s 1 2 x1) g1 (by omega) (by omega)
    rw [e, if_pos c.1, if_neg (by omega), if_pos ⟨c.1, by omega⟩] at B
    refine ⟨_, _, _, ⟨by omega, by omega⟩, A.more (by decide), B.more (by decide), ?_⟩
    exact hR.swap (h1.add (by omega) c.1) (h2.cong rfl rfl (fun z => addSM_A (by decide) (by decide)) (fun z => addSM_A (by decide) (by decide))) (fun a ha z => addSM_A ha.1 ha.2.2.2) (fun a k ha => addSM_F (by omega) (by omega))
  · rw [if_neg c] at A
    have B := m_write (X := X) (s := s) g1 (by omega) (by omega)
    rw [a3, if_neg (show ¬ ((32 ≤ x1 ∧ x1 ≤ 126) ∧ ¬ vF s 1 1 = 200) by omega)] at B
    refine Both.ask hR (z := if 32 ≤ x1 ∧ x1 ≤ 126 then (if 200 ≤ vF s 1 1 then -3 else vF s 1 1 + 1) else -1) ?_ (A.more (by decide)) ?_ (Kept.rfl' s)
    · (repeat' split) <;> exact ⟨by omega, by omega⟩
    · rw [iff_if (show 200 ≤ vF s 1 1 ↔ vF s 1 1 = 200 by omega)]; exact B.more (by decide)
theorem T_see {X : vX} {K : Int} {s : St} (hR : Rel K s) (hK : K < 512) {x1 : Int} (g1 : rg x1) : Both X K s 112 190 [.int (iI x1)] := by
  obtain ⟨h0, h1, h2, h3, h4, h5, h6⟩ := id hR
  obtain ⟨a1, a2, a3, a4⟩ := id h2
  have A := k_see (X := X) g1 a1 a2
  by_cases c : (0 ≤ x1 ∧ x1 < 4) ∧ ¬ 6 ≤ vF s 3 1
  · rw [if_pos c, if_pos c.1, if_neg c.2] at A
    have e : vF (addS s 3 4 x1) 95 9 = vF s 3 1 := a3
    have B := m_see (X := X) (s := addS s 3 4 x1) g1 (by omega) (by omega)
    rw [e, if_pos (by omega), if_neg (by omega), if_pos ⟨by omega, by omega⟩] at B
    refine ⟨_, _, _, ⟨by omega, by omega⟩, A.more (by decide), B.more (by decide), ?_⟩
    exact hR.swap (h1.cong rfl rfl (fun z => addSM_A (by decide) (by decide)) (fun z => addSM_A (by decide) (by decide))) (h2.add (by omega) c.1) (fun a ha z => addSM_A ha.2.1 ha.2.2.1) (fun a k ha => addSM_F (by omega) (by omega))
  · rw [if_neg c] at A
    have B := m_see (X := X) (s := s) g1 (by omega) (by omega)
    rw [a3, if_neg (show ¬ ((0 ≤ x1 ∧ x1 ≤ 3) ∧ ¬ vF s 3 1 = 6) by omega)] at B
    refine Both.ask hR (z := if 0 ≤ x1 ∧ x1 < 4 then (if 6 ≤ vF s 3 1 then -3 else vF s 3 1 + 1) else -1) ?_ (A.more (by decide)) ?_ (Kept.rfl' s)
    · (repeat' split) <;> exact ⟨by omega, by omega⟩
    · rw [iff_if (show 6 ≤ vF s 3 1 ↔ vF s 3 1 = 6 by omega), iff_if (show (0 ≤ x1 ∧ x1 < 4) ↔ (0 ≤ x1 ∧ x1 ≤ 3) by omega)]; exact B.more (by decide)
theorem T_wipe {X : vX} {K : Int} {s : St} (hR : Rel K s) (hK : K < 512) : Both X K s 94 135 [] := by
  obtain ⟨h0, h1, h2, h3, h4, h5, h6⟩ := id hR
  obtain ⟨a1, a2, a3, a4⟩ := id h1
  have B := m_wipe (X := X) (s := sF s 1 1 0)
  rw [show vF (sF s 1 1 0) 95 11 = vF s 1 1 from a3] at B
  refine ⟨_, _, _, ⟨by omega, by omega⟩, (k_wipe (X := X)).more (by decide), B.more (by decide), ?_⟩
  refine hR.swap ⟨by show (0 : Int) ≤ 0; omega, by show (0 : Int) ≤ 200; omega, rfl, fun j b0 b1 => absurd (show j < 0 from b1) (by omega)⟩ (h2.cong rfl rfl (fun z => rfl) (fun z => rfl)) (fun a ha z => rfl) (fun a k ha => ?_)
  rw [vF_sF, if_neg (fun e => ha.2.2 ⟨e.1, Or.inr e.2⟩), vF_sF, if_neg (fun e => ha.1 e.1)]
theorem T_forget {X : vX} {K : Int} {s : St} (hR : Rel K s) (hK : K < 512) : Both X K s 113 191 [] := by
  obtain ⟨h0, h1, h2, h3, h4, h5, h6⟩ := id hR
  obtain ⟨a1, a2, a3, a4⟩ := id h2
  have B := m_forget (X := X) (s := sF s 3 1 0)
  rw [show vF (sF s 3 1 0) 95 9 = vF s 3 1 from a3] at B
  refine ⟨_, _, _, ⟨by omega, by omega⟩, (k_forget (X := X)).more (by decide), B.more (by decide), ?_⟩
  refine hR.swap (h1.cong rfl rfl (fun z => rfl) (fun z => rfl)) ⟨by show (0 : Int) ≤ 0; omega, by show (0 : Int) ≤ 6; omega, rfl, fun j b0 b1 => absurd (show j < 0 from b1) (by omega)⟩ (fun a ha z => rfl) (fun a k ha => ?_)
  rw [vF_sF, if_neg (fun e => ha.2.2 ⟨e.1, Or.inl e.2⟩), vF_sF, if_neg (fun e => ha.2.1 e.1)]