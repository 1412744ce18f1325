/-! Tale, within, isWood -/
theorem iI_xor {a b : Int} (ha : 0 ≤ a) (ha2 : a < 2147483648) (hb : 0 ≤ b) (hb2 : b < 2147483648) : ∃ z : Int, 0 ≤ z ∧ rg z ∧ iI a ^^^ iI b = iI z := by
  refine ⟨(iI a ^^^ iI b).toInt, ?_, rg_of _, (iI_of _).symm⟩
  have m : ∀ x : Int, 0 ≤ x → x < 2147483648 → (iI x).toBitVec.msb = false := by
    intro x h0 h1
    rw [BitVec.msb_eq_toInt]
    show decide ((iI x).toInt < 0) = false
    rw [iI_t ⟨by omega, h1⟩]
    exact decide_eq_false (by omega)
  have h : (iI a ^^^ iI b).toBitVec.msb = false := by
    show ((iI a).toBitVec ^^^ (iI b).toBitVec).msb = false
    rw [BitVec.msb_xor, m a ha ha2, m b hb hb2]; rfl
  rw [BitVec.msb_eq_toInt] at h
  have h := of_decide_eq_false h
  show 0 ≤ (iI a ^^^ iI b).toBitVec.toInt
  omega
def isTale (t : Nat) : Prop := ly t = (0, 7, [some (t + 1), some (t + 3), some (t + 5), some (t + 7), none]) ∧ isRow (t + 1) 36 ∧ isRow (t + 3) 8 ∧ isRow (t + 5) 9 ∧ isRow (t + 7) 9
/-- what a tale holds -/
def TaleOk (s : St) (t : Nat) : Prop := 0 ≤ vF s t 4 ∧ vF s t 4 ≤ 9 ∧ vF s (t + 1) 1 = 4 * vF s t 4 ∧ 0 ≤ vF s (t + 3) 1 ∧ vF s (t + 3) 1 ≤ 8 ∧ (∀ j, 0 ≤ j → j < 4 * vF s t 4 → 0 ≤ vA s (t + 2) j ∧ vA s (t + 2) j ≤ 9) ∧ (∀ j, 0 ≤ j → j < vF s (t + 3) 1 → 0 ≤ vA s (t + 4) j ∧ vA s (t + 4) j ≤ 3)
def bhI (s : St) (t : Nat) (l w : Int) : Int := if (0 ≤ l ∧ l < vF s t 4) ∧ (0 ≤ w ∧ w < 4) then (if vA s (t + 2) (l * 4 + w) = 9 then -4 else vA s (t + 2) (l * 4 + w)) else -4
def cfI (s : St) (t : Nat) (l w : Int) : Int := if bhI s t l w = -4 then l else bhI s t l w
def rnI (s : St) (t : Nat) (h : Int) : Int := if 0 < vF s (t + 3) 1 then vA s (t + 4) (h % vF s (t + 3) 1) else 0
theorem bhI_b {s : St} {t : Nat} (h : TaleOk s t) (l w : Int) : -4 ≤ bhI s t l w ∧ bhI s t l w ≤ 9 := by
  obtain ⟨h1, h2, h3, h4, h5, h6, h7⟩ := h
  unfold bhI
  split
  · split
    · omega
    · have := h6 (l * 4 + w) (by omega) (by omega); omega
  · omega
theorem rnI_b {s : St} {t : Nat} (h : TaleOk s t) (x : Int) : 0 ≤ rnI s t x ∧ rnI s t x ≤ 3 := by
  obtain ⟨h1, h2, h3, h4, h5, h6, h7⟩ := h
  unfold rnI
  split
  · rename_i hp
    exact h7 _ (Int.emod_nonneg x (by omega)) (Int.emod_lt_of_pos x hp)
  · omega
set_option maxHeartbeats 1000000 in
set_option maxRecDepth 4000 in
theorem c_within {X : vX} {s : St} {n a b : Int} (hn : rg n) (ha : rg a) (hb : rg b) : OkI X 0 126 [.int (iI n), .int (iI a), .int (iI b)] s (Is1 (if a ≤ n ∧ n ≤ b then 1 else 0) s) := by
  refine Ok.of (r := vm_m126) (ls := [some (.int (iI n)), some (.int (iI a)), some (.int (iI b))]) rfl (Nat.le_of_ble_eq_true rfl) rfl (fun d hd => ?_)
  refine Gs_iload_n p126_0 rfl rfl ?_
  refine Gs_iload_n p126_1 rfl rfl ?_
  refine Gs_icmp_lt (tgt := 14) p126_2 (by rfl) (by first | assumption | exact ⟨by omega, by omega⟩ | (split <;> exact ⟨by omega, by omega⟩)) (by first | assumption | exact ⟨by omega, by omega⟩ | (split <;> exact ⟨by omega, by omega⟩)) (fun h2 => ?_) (fun h2 => ?_)
  · refine Gs_iconst p126_14 ?_
    refine Gs_zret p126_15 rfl (by first | exact Or.inl rfl | exact Or.inr rfl | (split <;> first | exact Or.inl rfl | exact Or.inr rfl)) ⟨_, rfl, ?_⟩
    first | exact ⟨rfl, rfl⟩ | exact ⟨by ((repeat' split) <;> omega), rfl⟩ | (simp only [Is1, Is0]; refine ⟨?_, rfl⟩; (repeat' split) <;> omega)
  · refine Gs_iload_n p126_5 rfl rfl ?_
    refine Gs_iload_n p126_6 rfl rfl ?_
    refine Gs_icmp_gt (tgt := 14) p126_7 (by rfl) (by first | assumption | exact ⟨by omega, by omega⟩ | (split <;> exact ⟨by omega, by omega⟩)) (by first | assumption | exact ⟨by omega, by omega⟩ | (split <;> exact ⟨by omega, by omega⟩)) (fun h7 => ?_) (fun h7 => ?_)
    · refine Gs_iconst p126_14 ?_
      refine Gs_zret p126_15 rfl (by first | exact Or.inl rfl | exact Or.inr rfl | (split <;> first | exact Or.inl rfl | exact Or.inr rfl)) ⟨_, rfl, ?_⟩
      first | exact ⟨rfl, rfl⟩ | exact ⟨by ((repeat' split) <;> omega), rfl⟩ | (simp only [Is1, Is0]; refine ⟨?_, rfl⟩; (repeat' split) <;> omega)
    · refine Gs_iconst p126_10 ?_
      refine Gs_goto (tgt := 15) p126_11 (by rfl) ?_
      refine Gs_zret p126_15 rfl (by first | exact Or.inl rfl | exact Or.inr rfl | (split <;> first | exact Or.inl rfl | exact Or.inr rfl)) ⟨_, rfl, ?_⟩
      first | exact ⟨rfl, rfl⟩ | exact ⟨by ((repeat' split) <;> omega), rfl⟩ | (simp only [Is1, Is0]; refine ⟨?_, rfl⟩; (repeat' split) <;> omega)

set_option maxHeartbeats 1000000 in
set_option maxRecDepth 4000 in
theorem c_isWood {X : vX} {s : St} {w : Int} (hw : rg w) : OkI X 0 125 [.int (iI w)] s (Is1 (if 0 ≤ w ∧ w < 4 then 1 else 0) s) := by
  refine Ok.of (r := vm_m125) (ls := [some (.int (iI w))]) rfl (Nat.le_of_ble_eq_true rfl) rfl (fun d hd => ?_)
  refine Gs_iload_n p125_0 rfl rfl ?_
  refine Gs_if_lt (tgt := 13) p125_1 (by rfl) (by first | assumption | exact ⟨by omega, by omega⟩ | (split <;> exact ⟨by omega, by omega⟩)) (fun h1 => ?_) (fun h1 => ?_)
  · refine Gs_iconst p125_13 ?_
    refine Gs_zret p125_14 rfl (by first | exact Or.inl rfl | exact Or.inr rfl | (split <;> first | exact Or.inl rfl | exact Or.inr rfl)) ⟨_, rfl, ?_⟩
    first | exact ⟨rfl, rfl⟩ | exact ⟨by ((repeat' split) <;> omega), rfl⟩ | (simp only [Is1, Is0]; refine ⟨?_, rfl⟩; (repeat' split) <;> omega)
  · refine Gs_iload_n p125_4 rfl rfl ?_
    refine Gs_iconst p125_5 ?_
    refine Gs_icmp_ge (tgt := 13) p125_6 (by rfl) (by first | assumption | exact ⟨by omega, by omega⟩ | (split <;> exact ⟨by omega, by omega⟩)) (by first | assumption | exact ⟨by omega, by omega⟩ | (split <;> exact ⟨by omega, by omega⟩)) (fun h6 => ?_) (fun h6 => ?_)
    · refine Gs_iconst p125_13 ?_
      refine Gs_zret p125_14 rfl (by first | exact Or.inl rfl | exact Or.inr rfl | (split <;> first | exact Or.inl rfl | exact Or.inr rfl)) ⟨_, rfl, ?_⟩
      first | exact ⟨rfl, rfl⟩ | exact ⟨by ((repeat' split) <;> omega), rfl⟩ | (simp only [Is1, Is0]; refine ⟨?_, rfl⟩; (repeat' split) <;> omega)
    · refine Gs_iconst p125_9 ?_
      refine Gs_goto (tgt := 14) p125_10 (by rfl) ?_
      refine Gs_zret p125_14 rfl (by first | exact Or.inl rfl | exact Or.inr rfl | (split <;> first | exact Or.inl rfl | exact Or.inr rfl)) ⟨_, rfl, ?_⟩
      first | exact ⟨rfl, rfl⟩ | exact ⟨by ((repeat' split) <;> omega), rfl⟩ | (simp only [Is1, Is0]; refine ⟨?_, rfl⟩; (repeat' split) <;> omega)

set_option maxHeartbeats 1000000 in
set_option maxRecDepth 4000 in
theorem c_lines {X : vX} {s : St} {t : Nat} (ht : isTale t) (hk : TaleOk s t) : OkI X 0 75 [.ref t] s (Is1 (vF s t 4) s) := by
  refine Ok.of (r := vm_m75) (ls := [some (.ref t)]) rfl (Nat.le_of_ble_eq_true rfl) rfl (fun d hd => ?_)
  obtain ⟨hy, hr1, hr3, hr5, hr7⟩ := ht
  obtain ⟨k1, k2, k3, k4, k5, k6, k7⟩ := id hk
  refine Gs_aload_n p75_0 rfl rfl ?_
  refine Gs_getI p75_1 (by first | rfl | assumption | exact (show isTale _ from by assumption).1 | exact (show isRow _ _ from by assumption).1) (by rfl) ?_
  refine Gs_iret p75_4 rfl ⟨_, rfl, ?_⟩
  first | exact ⟨rfl, rfl⟩ | exact ⟨by ((repeat' split) <;> omega), rfl⟩ | (simp only [Is1, Is0]; refine ⟨?_, rfl⟩; (repeat' split) <;> omega)

set_option maxHeartbeats 1000000 in
set_option maxRecDepth 4000 in
theorem c_isLine {X : vX} {s : St} {t : Nat} (ht : isTale t) (hk : TaleOk s t) {l : Int} (hl : rg l) : OkI X 0 76 [.ref t, .int (iI l)] s (Is1 (if 0 ≤ l ∧ l < vF s t 4 then 1 else 0) s) := by
  refine Ok.of (r := vm_m76) (ls := [some (.ref t), some (.int (iI l))]) rfl (Nat.le_of_ble_eq_true rfl) rfl (fun d hd => ?_)
  obtain ⟨hy, hr1, hr3, hr5, hr7⟩ := ht
  obtain ⟨k1, k2, k3, k4, k5, k6, k7⟩ := id hk
  refine Gs_iload_n p76_0 rfl rfl ?_
  refine Gs_if_lt (tgt := 16) p76_1 (by rfl) (by first | assumption | exact ⟨by omega, by omega⟩ | (split <;> exact ⟨by omega, by omega⟩)) (fun h1 => ?_) (fun h1 => ?_)
  · refine Gs_iconst p76_16 ?_
    refine Gs_zret p76_17 rfl (by first | exact Or.inl rfl | exact Or.inr rfl | (split <;> first | exact Or.inl rfl | exact Or.inr rfl)) ⟨_, rfl, ?_⟩
    first | exact ⟨rfl, rfl⟩ | exact ⟨by ((repeat' split) <;> omega), rfl⟩ | (simp only [Is1, Is0]; refine ⟨?_, rfl⟩; (repeat' split) <;> omega)
  · refine Gs_iload_n p76_4 rfl rfl ?_
    refine Gs_aload_n p76_5 rfl rfl ?_
    refine Gs_getI p76_6 (by first | rfl | assumption | exact (show isTale _ from by assumption).1 | exact (show isRow _ _ from by assumption).1) (by rfl) ?_
    refine Gs_icmp_ge (tgt := 16) p76_9 (by rfl) (by first | assumption | exact ⟨by omega, by omega⟩ | (split <;> exact ⟨by omega, by omega⟩)) (by first | assumption | exact ⟨by omega, by omega⟩ | (split <;> exact ⟨by omega, by omega⟩)) (fun h9 => ?_) (fun h9 => ?_)
    · refine Gs_iconst p76_16 ?_
      refine Gs_zret p76_17 rfl (by first | exact Or.inl rfl | exact Or.inr rfl | (split <;> first | exact Or.inl rfl | exact Or.inr rfl)) ⟨_, rfl, ?_⟩
      first | exact ⟨rfl, rfl⟩ | exact ⟨by ((repeat' split) <;> omega), rfl⟩ | (simp only [Is1, Is0]; refine ⟨?_, rfl⟩; (repeat' split) <;> omega)
    · refine Gs_iconst p76_12 ?_
      refine Gs_goto (tgt := 17) p76_13 (by rfl) ?_
      refine Gs_zret p76_17 rfl (by first | exact Or.inl rfl | exact Or.inr rfl | (split <;> first | exact Or.inl rfl | exact Or.inr rfl)) ⟨_, rfl, ?_⟩
      first | exact ⟨rfl, rfl⟩ | exact ⟨by ((repeat' split) <;> omega), rfl⟩ | (simp only [Is1, Is0]; refine ⟨?_, rfl⟩; (repeat' split) <;> omega)

set_option maxHeartbeats 1000000 in
set_option maxRecDepth 4000 in
theorem c_behind {X : vX} {s : St} {t : Nat} (ht : isTale t) (hk : TaleOk s t) {l w : Int} (hl : rg l) (hw : rg w) : OkI X 2 78 [.ref t, .int (iI l), .int (iI w)] s (Is1 (bhI s t l w) s) := by
  refine Ok.of (r := vm_m78) (ls := [some (.ref t), some (.int (iI l)), some (.int (iI w)), none]) rfl (Nat.le_of_ble_eq_true rfl) rfl (fun d hd => ?_)
  have ht' := ht
  obtain ⟨hy, hr1, hr3, hr5, hr7⟩ := ht
  obtain ⟨k1, k2, k3, k4, k5, k6, k7⟩ := id hk
  refine Gs_aload_n p78_0 rfl rfl ?_
  refine Gs_iload_n p78_1 rfl rfl ?_
  refine Gs_callV1I p78_2 (by rfl) (by rfl) (by first | rfl | assumption | exact (show isTale _ from by assumption).1 | exact (show isRow _ _ from by assumption).1) (Nat.le_of_ble_eq_true rfl) (by decide) (c_isLine ht' hk hl) (by omega) ?_
  refine Gs_ifb_eq (tgt := 15) p78_5 (by rfl) (fun h5 => ?_) (fun h5 => ?_)
  · refine Gs_bipush p78_15 (by decide) ?_
    refine Gs_iret p78_17 rfl ⟨_, rfl, ?_⟩
    refine ⟨?_, rfl⟩
    unfold bhI
    (repeat' split) <;> omega
  · refine Gs_iload_n p78_8 rfl rfl ?_
    refine Gs_callS1I p78_9 (by rfl) (Nat.le_of_ble_eq_true rfl) (by decide) (c_isWood hw) (by omega) ?_
    refine Gs_ifb_ne (tgt := 18) p78_12 (by rfl) (fun h12 => ?_) (fun h12 => ?_)
    · refine Gs_aload_n p78_18 rfl rfl ?_
      refine Gs_getR p78_19 (by first | rfl | assumption | exact (show isTale _ from by assumption).1 | exact (show isRow _ _ from by assumption).1) (by rfl) ?_
      refine Gs_iload_n p78_22 rfl rfl ?_
      refine Gs_iconst p78_23 ?_
      refine Gs_imul p78_24 ?_
      refine Gs_iload_n p78_25 rfl rfl ?_
      refine Gs_iadd p78_26 ?_
      refine Gs_callV1I p78_27 (by rfl) (by rfl) hr1.1 (Nat.le_of_ble_eq_true rfl) (by decide) (c_agot (a := t + 2) hr1 rfl ⟨by omega, by omega⟩ (by omega) (by omega) (by omega) (by omega)) (by omega) ?_
      refine Gs_ist3 p78_30 (by first | rfl | assumption) ?_
      refine Gs_iload_n p78_31 rfl rfl ?_
      refine Gs_bipush p78_32 (by decide) ?_
      have hb := k6 (l * 4 + w) (by omega) (by omega)
      refine Gs_icmp_ne (tgt := 42) p78_34 (by rfl) (by first | assumption | exact ⟨by omega, by omega⟩ | (split <;> exact ⟨by omega, by omega⟩)) (by first | assumption | exact ⟨by omega, by omega⟩ | (split <;> exact ⟨by omega, by omega⟩)) (fun h34 => ?_) (fun h34 => ?_)
      · refine Gs_iload_n p78_42 rfl rfl ?_
        refine Gs_iret p78_43 rfl ⟨_, rfl, ?_⟩
        refine ⟨?_, rfl⟩
        unfold bhI
        (repeat' split) <;> omega
      · refine Gs_bipush p78_37 (by decide) ?_
        refine Gs_goto (tgt := 43) p78_39 (by rfl) ?_
        refine Gs_iret p78_43 rfl ⟨_, rfl, ?_⟩
        refine ⟨?_, rfl⟩
        unfold bhI
        (repeat' split) <;> omega
    · refine Gs_bipush p78_15 (by decide) ?_
      refine Gs_iret p78_17 rfl ⟨_, rfl, ?_⟩
      refine ⟨?_, rfl⟩
      unfold bhI
      (repeat' split) <;> omega

set_option maxHeartbeats 1000000 in
set_option maxRecDepth 4000 in
theorem c_comingFrom {X : vX} {s : St} {t : Nat} (ht : isTale t) (hk : TaleOk s t) {l w : Int} (hl : rg l) (hw : rg w) : OkI X 3 79 [.ref t, .int (iI l), .int (iI w)] s (Is1 (cfI s t l w) s) := by
  refine Ok.of (r := vm_m79) (ls := [some (.ref t), some (.int (iI l)), some (.int (iI w)), none]) rfl (Nat.le_of_ble_eq_true rfl) rfl (fun d hd => ?_)
  have hb := bhI_b hk l w
  have hy := ht.1
  refine Gs_aload_n p79_0 rfl rfl ?_
  refine Gs_iload_n p79_1 rfl rfl ?_
  refine Gs_iload_n p79_2 rfl rfl ?_
  refine Gs_callV2I p79_3 (by rfl) (by rfl) (by first | rfl | assumption | exact (show isTale _ from by assumption).1 | exact (show isRow _ _ from by assumption).1) (Nat.le_of_ble_eq_true rfl) (by decide) (c_behind ht hk hl hw) (by omega) ?_
  refine Gs_ist3 p79_6 (by first | rfl | assumption) ?_
  refine Gs_iload_n p79_7 rfl rfl ?_
  refine Gs_bipush p79_8 (by decide) ?_
  refine Gs_icmp_ne (tgt := 17) p79_10 (by rfl) (by first | assumption | exact ⟨by omega, by omega⟩ | (split <;> exact ⟨by omega, by omega⟩)) (by first | assumption | exact ⟨by omega, by omega⟩ | (split <;> exact ⟨by omega, by omega⟩)) (fun h10 => ?_) (fun h10 => ?_)
  · refine Gs_iload_n p79_17 rfl rfl ?_
    refine Gs_iret p79_18 rfl ⟨_, rfl, ?_⟩
    refine ⟨?_, rfl⟩
    unfold cfI
    split <;> omega
  · refine Gs_iload_n p79_13 rfl rfl ?_
    refine Gs_goto (tgt := 18) p79_14 (by rfl) ?_
    refine Gs_iret p79_18 rfl ⟨_, rfl, ?_⟩
    refine ⟨?_, rfl⟩
    unfold cfI
    split <;> omega

set_option maxHeartbeats 1000000 in
set_option maxRecDepth 4000 in
theorem c_rainAt {X : vX} {s : St} {t : Nat} (ht : isTale t) (hk : TaleOk s t) {h : Int} (h0 : 0 ≤ h) (h1 : h < 2147483648) : OkI X 1 80 [.ref t, .int (iI h)] s (Is1 (rnI s t h) s) := by
  refine Ok.of (r := vm_m80) (ls := [some (.ref t), some (.int (iI h)), none]) rfl (Nat.le_of_ble_eq_true rfl) rfl (fun d hd => ?_)
  obtain ⟨hy, hr1, hr3, hr5, hr7⟩ := ht
  obtain ⟨k1, k2, k3, k4, k5, k6, k7⟩ := id hk
  refine Gs_aload_n p80_0 rfl rfl ?_
  refine Gs_getR p80_1 (by first | rfl | assumption | exact (show isTale _ from by assumption).1 | exact (show isRow _ _ from by assumption).1) (by rfl) ?_
  refine Gs_callV0I p80_4 (by rfl) (by rfl) hr3.1 (Nat.le_of_ble_eq_true rfl) (by decide) (c_size hr3) (by omega) ?_
  refine Gs_ist2 p80_7 (by first | rfl | assumption) ?_
  refine Gs_iload_n p80_8 rfl rfl ?_
  refine Gs_if_le (tgt := 27) p80_9 (by rfl) (by first | assumption | exact ⟨by omega, by omega⟩ | (split <;> exact ⟨by omega, by omega⟩)) (fun h9 => ?_) (fun h9 => ?_)
  · refine Gs_iconst p80_27 ?_
    refine Gs_iret p80_28 rfl ⟨_, rfl, ?_⟩
    refine ⟨?_, rfl⟩
    unfold rnI
    first | (rw [if_pos (by omega)]; done) | (rw [if_neg (by omega)]; done)
  · refine Gs_aload_n p80_12 rfl rfl ?_
    refine Gs_getR p80_13 (by first | rfl | assumption | exact (show isTale _ from by assumption).1 | exact (show isRow _ _ from by assumption).1) (by rfl) ?_
    refine Gs_iload_n p80_16 rfl rfl ?_
    refine Gs_iload_n p80_17 rfl rfl ?_
    refine Gs_callS2I p80_18 (by rfl) (Nat.le_of_ble_eq_true rfl) (by decide) (c_floorMod h0 h1 (by omega) (by omega) (iI_xor h0 h1 (by omega) (by omega))) (by omega) ?_
    refine Gs_callV1I p80_21 (by rfl) (by rfl) hr3.1 (Nat.le_of_ble_eq_true rfl) (by decide) (c_agot (a := t + 4) hr3 rfl ⟨by have := Int.emod_nonneg h (show vF s (t + 3) 1 ≠ 0 by omega); omega, by have := Int.emod_lt_of_pos h (show 0 < vF s (t + 3) 1 by omega); omega⟩ (by omega) (by omega) (Int.emod_nonneg h (by omega)) (Int.emod_lt_of_pos h (by omega))) (by omega) ?_
    refine Gs_goto (tgt := 28) p80_24 (by rfl) ?_
    refine Gs_iret p80_28 rfl ⟨_, rfl, ?_⟩
    refine ⟨?_, rfl⟩
    unfold rnI
    first | (rw [if_pos (by omega)]; done) | (rw [if_neg (by omega)]; done)
