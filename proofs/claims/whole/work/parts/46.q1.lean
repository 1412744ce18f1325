/-! questions: line, rain, company, lasts -/
theorem Both.q {X : vX} {K : Int} {s s1 s2 : St} {c m D D' : Nat} {as : List Value} {z z' : Int} (hR : Rel K s) (h1 : OkI X D c (.ref 0 :: as) s (Is1 z s1)) (h2 : OkI X D' m (.ref 95 :: as) s1 (Is1 z' s2)) (hD : D ≤ 100) (hD' : D' ≤ 100) (e : z' = z) (hz : rg z) (k : Kept s s2) : Both X K s c m as := by
  subst e
  exact Both.ask hR hz (h1.more hD) (h2.more hD') k
/-- the place of a company's number in the reference's row -/
def mi (k w : Int) : Int := if w = 0 then k else if w = 1 then 4 + k else if w = 6 then 24 + k else if w = 7 then 28 + k else 8 + 4 * k + (w - 2)
theorem mi_b {k w : Int} (h0 : 0 ≤ k) (h1 : k < 4) (h2 : 0 ≤ w) (h3 : w < 8) : 0 ≤ mi k w ∧ mi k w < 32 := by unfold mi; (repeat' split) <;> omega
theorem w8 {w : Int} (h2 : 0 ≤ w) (h3 : w < 8) : w = 0 ∨ w = 1 ∨ (∃ x, 0 ≤ x ∧ x < 4 ∧ w = 2 + x) ∨ w = 6 ∨ w = 7 := by
  by_cases h : 2 ≤ w ∧ w < 6
  · exact Or.inr (Or.inr (Or.inl ⟨w - 2, by omega, by omega, by omega⟩))
  · omega
theorem mi_0 (k : Int) : mi k 0 = k := rfl
theorem mi_1 (k : Int) : mi k 1 = 4 + k := rfl
theorem mi_6 (k : Int) : mi k 6 = 24 + k := rfl
theorem mi_7 (k : Int) : mi k 7 = 28 + k := rfl
theorem mi_2 {k x : Int} (h0 : 0 ≤ x) (h1 : x < 4) : mi k (2 + x) = 8 + 4 * k + x := by unfold mi; rw [if_neg (by omega), if_neg (by omega), if_neg (by omega), if_neg (by omega)]; omega
theorem CampRel.v {s : St} {c a : Nat} {o n L K : Int} (h : CampRel s c a o n L K) {k w : Int} (b0 : 0 ≤ k) (b1 : k < n) (b2 : 0 ≤ w) (b3 : w < 8) : cg s c k w = vA s a (o + mi k w) := by
  obtain ⟨h1, h2, h3, h4, h5, h6⟩ := h
  obtain ⟨e0, e1, e6, e7, _⟩ := h4 k b0 b1
  rcases w8 b2 b3 with rfl | rfl | ⟨x, x0, x1, rfl⟩ | rfl | rfl
  · rw [mi_0]; exact e0
  · rw [mi_1, ← Int.add_assoc]; exact e1
  · rw [mi_2 x0 x1, ← Int.add_assoc, ← Int.add_assoc]; exact h5 k x b0 b1 x0 x1
  · rw [mi_6, ← Int.add_assoc]; exact e6
  · rw [mi_7, ← Int.add_assoc]; exact e7
theorem CampRel.v0 {s : St} {c a : Nat} {n L K : Int} (h : CampRel s c a 0 n L K) {k w : Int} (b0 : 0 ≤ k) (b1 : k < n) (b2 : 0 ≤ w) (b3 : w < 8) : cg s c k w = vA s a (mi k w) := by
  have := h.v b0 b1 b2 b3
  rw [Int.zero_add] at this
  exact this
set_option maxHeartbeats 1000000 in
set_option maxRecDepth 4000 in
theorem k_line {X : vX} {s : St} {l w : Int} (hl : rg l) (hw : rg w) (hT : TaleOk s 5) : OkI X 3 97 [.ref 0, .int (iI l), .int (iI w)] s (Is1 (if (0 ≤ l ∧ l < vF s 5 4) ∧ (0 ≤ w ∧ w < 4) then bhI s 5 l w else -1) s) := by
  refine Ok.of (r := vm_m97) (ls := [some (.ref 0), some (.int (iI l)), some (.int (iI w))]) rfl (Nat.le_of_ble_eq_true rfl) rfl (fun d hd => ?_)
  refine Gs_aload_n p97_0 rfl rfl ?_
  refine Gs_getR p97_1 (by first | rfl | assumption | exact (show isTale _ from by assumption).1 | exact (show isCamp _ _ from by assumption).1 | exact (show isRow _ _ from by assumption).1) (by rfl) ?_
  refine Gs_iload_n p97_4 rfl rfl ?_
  refine Gs_callV1I p97_5 (by rfl) (by rfl) (by first | rfl | assumption | exact (show isTale _ from by assumption).1 | exact (show isCamp _ _ from by assumption).1 | exact (show isRow _ _ from by assumption).1) (Nat.le_of_ble_eq_true rfl) (by decide) (c_isLine tale5 hT hl) (by omega) ?_
  refine Gs_ifb_eq (tgt := 30) p97_8 (by rfl) (fun h8 => ?_) (fun h8 => ?_)
  · refine Gs_iconst p97_30 ?_
    refine Gs_iret p97_31 rfl ⟨_, rfl, ?_⟩
    refine ⟨?_, rfl⟩
    (repeat' split) <;> first | rfl | (exfalso; omega) | omega
  · refine Gs_iload_n p97_11 rfl rfl ?_
    refine Gs_callS1I p97_12 (by rfl) (Nat.le_of_ble_eq_true rfl) (by decide) (c_isWood hw) (by omega) ?_
    refine Gs_ifb_eq (tgt := 30) p97_15 (by rfl) (fun h15 => ?_) (fun h15 => ?_)
    · refine Gs_iconst p97_30 ?_
      refine Gs_iret p97_31 rfl ⟨_, rfl, ?_⟩
      refine ⟨?_, rfl⟩
      (repeat' split) <;> first | rfl | (exfalso; omega) | omega
    · refine Gs_aload_n p97_18 rfl rfl ?_
      refine Gs_getR p97_19 (by first | rfl | assumption | exact (show isTale _ from by assumption).1 | exact (show isCamp _ _ from by assumption).1 | exact (show isRow _ _ from by assumption).1) (by rfl) ?_
      refine Gs_iload_n p97_22 rfl rfl ?_
      refine Gs_iload_n p97_23 rfl rfl ?_
      refine Gs_callV2I p97_24 (by rfl) (by rfl) (by first | rfl | assumption | exact (show isTale _ from by assumption).1 | exact (show isCamp _ _ from by assumption).1 | exact (show isRow _ _ from by assumption).1) (Nat.le_of_ble_eq_true rfl) (by decide) (c_behind tale5 hT hl hw) (by omega) ?_
      refine Gs_goto (tgt := 31) p97_27 (by rfl) ?_
      refine Gs_iret p97_31 rfl ⟨_, rfl, ?_⟩
      refine ⟨?_, rfl⟩
      (repeat' split) <;> first | rfl | (exfalso; omega) | omega

set_option maxHeartbeats 1000000 in
set_option maxRecDepth 4000 in
theorem m_line {X : vX} {s : St} {l w : Int} (hl : rg l) (hw : rg w) (hT : MT s) : OkI X 2 154 [.ref 95, .int (iI l), .int (iI w)] s (Is1 (if (0 ≤ l ∧ l < vA s 96 0) ∧ (0 ≤ w ∧ w < 4) then bhM s l w else -1) s) := by
  refine Ok.of (r := vm_m154) (ls := [some (.ref 95), some (.int (iI l)), some (.int (iI w))]) rfl (Nat.le_of_ble_eq_true rfl) rfl (fun d hd => ?_)
  refine Gs_aload_n p154_0 rfl rfl ?_
  refine Gs_iload_n p154_1 rfl rfl ?_
  refine Gs_callV1I p154_2 (by rfl) (by rfl) (by first | rfl | assumption | exact (show isTale _ from by assumption).1 | exact (show isCamp _ _ from by assumption).1 | exact (show isRow _ _ from by assumption).1) (Nat.le_of_ble_eq_true rfl) (by decide) (c_misLine hT hl) (by omega) ?_
  refine Gs_ifb_eq (tgt := 24) p154_5 (by rfl) (fun h5 => ?_) (fun h5 => ?_)
  · refine Gs_iconst p154_24 ?_
    refine Gs_iret p154_25 rfl ⟨_, rfl, ?_⟩
    refine ⟨?_, rfl⟩
    (repeat' split) <;> first | rfl | (exfalso; omega) | omega
  · refine Gs_iload_n p154_8 rfl rfl ?_
    refine Gs_callS1I p154_9 (by rfl) (Nat.le_of_ble_eq_true rfl) (by decide) (c_misWood hw) (by omega) ?_
    refine Gs_ifb_eq (tgt := 24) p154_12 (by rfl) (fun h12 => ?_) (fun h12 => ?_)
    · refine Gs_iconst p154_24 ?_
      refine Gs_iret p154_25 rfl ⟨_, rfl, ?_⟩
      refine ⟨?_, rfl⟩
      (repeat' split) <;> first | rfl | (exfalso; omega) | omega
    · refine Gs_aload_n p154_15 rfl rfl ?_
      refine Gs_iload_n p154_16 rfl rfl ?_
      refine Gs_iload_n p154_17 rfl rfl ?_
      refine Gs_callV2I p154_18 (by rfl) (by rfl) (by first | rfl | assumption | exact (show isTale _ from by assumption).1 | exact (show isCamp _ _ from by assumption).1 | exact (show isRow _ _ from by assumption).1) (Nat.le_of_ble_eq_true rfl) (by decide) (c_mbehind hT (by omega) (by omega) (by omega) (by omega)) (by omega) ?_
      refine Gs_goto (tgt := 25) p154_21 (by rfl) ?_
      refine Gs_iret p154_25 rfl ⟨_, rfl, ?_⟩
      refine ⟨?_, rfl⟩
      (repeat' split) <;> first | rfl | (exfalso; omega) | omega

theorem Rel.MT {K : Int} {s : St} (h : Rel K s) : MT s := h.2.2.2.1.mt h.2.2.2.1.2.2.2.2.2.2
theorem T_line {X : vX} {K : Int} {s : St} (hR : Rel K s) (hK : K < 512) {x1 x2 : Int} (g1 : rg x1) (g2 : rg x2) : Both X K s 97 154 [.int (iI x1), .int (iI x2)] := by
  obtain ⟨h0, h1, h2, h3, h4, h5, h6⟩ := id hR
  have b := bhI_b h3.1 x1 x2
  refine Both.q hR (k_line g1 g2 h3.1) (m_line g1 g2 hR.MT) (by decide) (by decide) ?_ ?_ (Kept.rfl' s)
  · rw [h3.2.2.1]
    by_cases c : (0 ≤ x1 ∧ x1 < vF s 5 4) ∧ (0 ≤ x2 ∧ x2 < 4)
    · rw [if_pos c, if_pos c, h3.bh c.1.1 c.1.2 c.2.1 c.2.2]
    · rw [if_neg c, if_neg c]
  · split <;> exact ⟨by omega, by omega⟩
set_option maxHeartbeats 1000000 in
set_option maxRecDepth 4000 in
theorem k_rain {X : vX} {s : St} {v n : Int} (hv : rg v) (hT : TaleOk s 5) (hC : CampOk s 14 n) : OkI X 2 98 [.ref 0, .int (iI v)] s (Is1 (if 0 ≤ v ∧ v ≤ 99 then rnI s 5 (vF s 14 2 + v) else -1) s) := by
  refine Ok.of (r := vm_m98) (ls := [some (.ref 0), some (.int (iI v))]) rfl (Nat.le_of_ble_eq_true rfl) rfl (fun d hd => ?_)
  obtain ⟨k1, k2, k3, k4, k5, k6⟩ := id hC
  refine Gs_iload_n p98_0 rfl rfl ?_
  refine Gs_iconst p98_1 ?_
  refine Gs_bipush p98_2 (by decide) ?_
  refine Gs_callS3I p98_4 (by rfl) (Nat.le_of_ble_eq_true rfl) (by decide) (c_within hv ⟨by omega, by omega⟩ ⟨by omega, by omega⟩) (by omega) ?_
  refine Gs_ifb_eq (tgt := 29) p98_7 (by rfl) (fun h7 => ?_) (fun h7 => ?_)
  · refine Gs_iconst p98_29 ?_
    refine Gs_iret p98_30 rfl ⟨_, rfl, ?_⟩
    refine ⟨?_, rfl⟩
    (repeat' split) <;> first | rfl | (exfalso; omega) | omega
  · refine Gs_aload_n p98_10 rfl rfl ?_
    refine Gs_getR p98_11 (by first | rfl | assumption | exact (show isTale _ from by assumption).1 | exact (show isCamp _ _ from by assumption).1 | exact (show isRow _ _ from by assumption).1) (by rfl) ?_
    refine Gs_aload_n p98_14 rfl rfl ?_
    refine Gs_getR p98_15 (by first | rfl | assumption | exact (show isTale _ from by assumption).1 | exact (show isCamp _ _ from by assumption).1 | exact (show isRow _ _ from by assumption).1) (by rfl) ?_
    refine Gs_callV0I p98_18 (by rfl) (by rfl) (by first | rfl | assumption | exact (show isTale _ from by assumption).1 | exact (show isCamp _ _ from by assumption).1 | exact (show isRow _ _ from by assumption).1) (Nat.le_of_ble_eq_true rfl) (by decide) (c_hours camp14 hC) (by omega) ?_
    refine Gs_iload_n p98_21 rfl rfl ?_
    refine Gs_iadd p98_22 ?_
    refine Gs_callV1I p98_23 (by rfl) (by rfl) (by first | rfl | assumption | exact (show isTale _ from by assumption).1 | exact (show isCamp _ _ from by assumption).1 | exact (show isRow _ _ from by assumption).1) (Nat.le_of_ble_eq_true rfl) (by decide) (c_rainAt tale5 hT (by omega) (by omega)) (by omega) ?_
    refine Gs_goto (tgt := 30) p98_26 (by rfl) ?_
    refine Gs_iret p98_30 rfl ⟨_, rfl, ?_⟩
    refine ⟨?_, rfl⟩
    (repeat' split) <;> first | rfl | (exfalso; omega) | omega

set_option maxHeartbeats 1000000 in
set_option maxRecDepth 4000 in
theorem m_rain {X : vX} {s : St} {v n : Int} (hv : rg v) (hT : MT s) (hC : MC s 98 n) : OkI X 2 155 [.ref 95, .int (iI v)] s (Is1 (if 0 ≤ v ∧ v ≤ 99 then rnM s (vA s 98 32 + v) else -1) s) := by
  refine Ok.of (r := vm_m155) (ls := [some (.ref 95), some (.int (iI v))]) rfl (Nat.le_of_ble_eq_true rfl) rfl (fun d hd => ?_)
  obtain ⟨k1, k2, k3, k4⟩ := id hC
  refine Gs_iload_n p155_0 rfl rfl ?_
  refine Gs_i2l p155_1 (by first | assumption | exact ⟨by omega, by omega⟩ | (split <;> exact ⟨by omega, by omega⟩)) ?_
  refine Gs_lconst (z := 0) p155_2 (by decide) ?_
  refine Gs_ldc2 (z := (99)) p155_3 (by decide) ?_
  refine Gs_callS3I p155_6 (by rfl) (Nat.le_of_ble_eq_true rfl) (by decide) (c_in (rg_L hv) ⟨by omega, by omega⟩ ⟨by omega, by omega⟩) (by omega) ?_
  refine Gs_ifb_eq (tgt := 28) p155_9 (by rfl) (fun h9 => ?_) (fun h9 => ?_)
  · refine Gs_iconst p155_28 ?_
    refine Gs_iret p155_29 rfl ⟨_, rfl, ?_⟩
    refine ⟨?_, rfl⟩
    (repeat' split) <;> first | rfl | (exfalso; omega) | omega
  · refine Gs_aload_n p155_12 rfl rfl ?_
    refine Gs_aload_n p155_13 rfl rfl ?_
    refine Gs_getR p155_14 (by first | rfl | assumption | exact (show isTale _ from by assumption).1 | exact (show isCamp _ _ from by assumption).1 | exact (show isRow _ _ from by assumption).1) (by rfl) ?_
    refine Gs_bipush p155_17 (by decide) ?_
    refine Gs_iald p155_19 (by first | rfl | assumption | exact (show isTale _ from by assumption).1 | exact (show isCamp _ _ from by assumption).1 | exact (show isRow _ _ from by assumption).1) (by omega) (by omega) (by omega) ?_
    refine Gs_iload_n p155_20 rfl rfl ?_
    refine Gs_iadd p155_21 ?_
    refine Gs_callV1I p155_22 (by rfl) (by rfl) (by first | rfl | assumption | exact (show isTale _ from by assumption).1 | exact (show isCamp _ _ from by assumption).1 | exact (show isRow _ _ from by assumption).1) (Nat.le_of_ble_eq_true rfl) (by decide) (c_mrainAt hT (by omega) (by omega)) (by omega) ?_
    refine Gs_goto (tgt := 29) p155_25 (by rfl) ?_
    refine Gs_iret p155_29 rfl ⟨_, rfl, ?_⟩
    refine ⟨?_, rfl⟩
    (repeat' split) <;> first | rfl | (exfalso; omega) | omega

theorem T_rain {X : vX} {K : Int} {s : St} (hR : Rel K s) (hK : K < 512) {x1 : Int} (g1 : rg x1) : Both X K s 98 155 [.int (iI x1)] := by
  obtain ⟨h0, h1, h2, h3, h4, h5, h6⟩ := id hR
  have b := rnI_b h3.1 (vF s 14 2 + x1)
  refine Both.q hR (k_rain g1 h3.1 h4.1) (m_rain g1 hR.MT h4.mc) (by decide) (by decide) ?_ ?_ (Kept.rfl' s)
  · rw [h3.rn, show vA s 98 32 = vF s 14 2 from h4.2.1.symm]
  · split <;> exact ⟨by omega, by omega⟩
set_option maxHeartbeats 1000000 in
set_option maxRecDepth 4000 in
theorem k_company {X : vX} {s : St} {k w n : Int} (hz : rg k) (hw : rg w) (hC : CampOk s 14 n) : OkI X 3 99 [.ref 0, .int (iI k), .int (iI w)] s (Is1 (if (0 ≤ k ∧ k < n) ∧ (0 ≤ w ∧ w ≤ 7) then cg s 14 k w else -1) s) := by
  refine Ok.of (r := vm_m99) (ls := [some (.ref 0), some (.int (iI k)), some (.int (iI w))]) rfl (Nat.le_of_ble_eq_true rfl) rfl (fun d hd => ?_)
  refine Gs_aload_n p99_0 rfl rfl ?_
  refine Gs_getR p99_1 (by first | rfl | assumption | exact (show isTale _ from by assumption).1 | exact (show isCamp _ _ from by assumption).1 | exact (show isRow _ _ from by assumption).1) (by rfl) ?_
  refine Gs_iload_n p99_4 rfl rfl ?_
  refine Gs_callV1I p99_5 (by rfl) (by rfl) (by first | rfl | assumption | exact (show isTale _ from by assumption).1 | exact (show isCamp _ _ from by assumption).1 | exact (show isRow _ _ from by assumption).1) (Nat.le_of_ble_eq_true rfl) (by decide) (c_isCompany camp14 hC hz) (by omega) ?_
  refine Gs_ifb_eq (tgt := 33) p99_8 (by rfl) (fun h8 => ?_) (fun h8 => ?_)
  · refine Gs_iconst p99_33 ?_
    refine Gs_iret p99_34 rfl ⟨_, rfl, ?_⟩
    refine ⟨?_, rfl⟩
    (repeat' split) <;> first | rfl | (exfalso; omega) | omega
  · refine Gs_iload_n p99_11 rfl rfl ?_
    refine Gs_iconst p99_12 ?_
    refine Gs_bipush p99_13 (by decide) ?_
    refine Gs_callS3I p99_15 (by rfl) (Nat.le_of_ble_eq_true rfl) (by decide) (c_within hw ⟨by omega, by omega⟩ ⟨by omega, by omega⟩) (by omega) ?_
    refine Gs_ifb_eq (tgt := 33) p99_18 (by rfl) (fun h18 => ?_) (fun h18 => ?_)
    · refine Gs_iconst p99_33 ?_
      refine Gs_iret p99_34 rfl ⟨_, rfl, ?_⟩
      refine ⟨?_, rfl⟩
      (repeat' split) <;> first | rfl | (exfalso; omega) | omega
    · refine Gs_aload_n p99_21 rfl rfl ?_
      refine Gs_getR p99_22 (by first | rfl | assumption | exact (show isTale _ from by assumption).1 | exact (show isCamp _ _ from by assumption).1 | exact (show isRow _ _ from by assumption).1) (by rfl) ?_
      refine Gs_iload_n p99_25 rfl rfl ?_
      refine Gs_iload_n p99_26 rfl rfl ?_
      refine Gs_callV2I p99_27 (by rfl) (by rfl) (by first | rfl | assumption | exact (show isTale _ from by assumption).1 | exact (show isCamp _ _ from by assumption).1 | exact (show isRow _ _ from by assumption).1) (Nat.le_of_ble_eq_true rfl) (by decide) (c_Cget camp14 hC (by omega) (by omega) (by omega) (by omega)) (by omega) ?_
      refine Gs_goto (tgt := 34) p99_30 (by rfl) ?_
      refine Gs_iret p99_34 rfl ⟨_, rfl, ?_⟩
      refine ⟨?_, rfl⟩
      (repeat' split) <;> first | rfl | (exfalso; omega) | omega

set_option maxHeartbeats 1000000 in
set_option maxRecDepth 4000 in
theorem m_company {X : vX} {s : St} {k w : Int} (hz : rg k) (hw : rg w) (hT : MT s) : OkI X 2 156 [.ref 95, .int (iI k), .int (iI w)] s (Is1 (if (0 ≤ k ∧ k < vA s 96 2) ∧ (0 ≤ w ∧ w ≤ 7) then vA s 98 (mi k w) else -1) s) := by
  refine Ok.of (r := vm_m156) (ls := [some (.ref 95), some (.int (iI k)), some (.int (iI w))]) rfl (Nat.le_of_ble_eq_true rfl) rfl (fun d hd => ?_)
  obtain ⟨a1, a2, a3, a4, a5, a6, a7, a8⟩ := id hT
  refine Gs_aload_n p156_0 rfl rfl ?_
  refine Gs_iload_n p156_1 rfl rfl ?_
  refine Gs_callV1I p156_2 (by rfl) (by rfl) (by first | rfl | assumption | exact (show isTale _ from by assumption).1 | exact (show isCamp _ _ from by assumption).1 | exact (show isRow _ _ from by assumption).1) (Nat.le_of_ble_eq_true rfl) (by decide) (c_misCompany hT hz) (by omega) ?_
  refine Gs_ifb_ne (tgt := 10) p156_5 (by rfl) (fun h5 => ?_) (fun h5 => ?_)
  · refine Gs_iload_n p156_10 rfl rfl ?_
    by_cases e11_0 : w = 0
    · subst e11_0
      refine Gs_tabIn (off := 45) (tgt := 56) p156_11 hw (by omega) (by omega) rfl (by rfl) ?_
      refine Gs_aload_n p156_56 rfl rfl ?_
      refine Gs_getR p156_57 (by first | rfl | assumption | exact (show isTale _ from by assumption).1 | exact (show isCamp _ _ from by assumption).1 | exact (show isRow _ _ from by assumption).1) (by rfl) ?_
      refine Gs_iconst p156_60 ?_
      refine Gs_iload_n p156_61 rfl rfl ?_
      refine Gs_iadd p156_62 ?_
      refine Gs_iald p156_63 (by first | rfl | assumption | exact (show isTale _ from by assumption).1 | exact (show isCamp _ _ from by assumption).1 | exact (show isRow _ _ from by assumption).1) (by omega) (by omega) (by omega) ?_
      refine Gs_iret p156_64 rfl ⟨_, rfl, ?_⟩
      refine ⟨?_, rfl⟩
      first | (rw [if_neg (by omega)]; done) | (rw [if_pos (by omega)]; done) | (rw [if_pos (by omega)]; congr 1; done) | (rw [if_pos (by omega)]; congr 1; unfold mi; (repeat' split) <;> omega)
    by_cases e11_1 : w = 1
    · subst e11_1
      refine Gs_tabIn (off := 54) (tgt := 65) p156_11 hw (by omega) (by omega) rfl (by rfl) ?_
      refine Gs_aload_n p156_65 rfl rfl ?_
      refine Gs_getR p156_66 (by first | rfl | assumption | exact (show isTale _ from by assumption).1 | exact (show isCamp _ _ from by assumption).1 | exact (show isRow _ _ from by assumption).1) (by rfl) ?_
      refine Gs_iconst p156_69 ?_
      refine Gs_iload_n p156_70 rfl rfl ?_
      refine Gs_iadd p156_71 ?_
      refine Gs_iald p156_72 (by first | rfl | assumption | exact (show isTale _ from by assumption).1 | exact (show isCamp _ _ from by assumption).1 | exact (show isRow _ _ from by assumption).1) (by omega) (by omega) (by omega) ?_
      refine Gs_iret p156_73 rfl ⟨_, rfl, ?_⟩
      refine ⟨?_, rfl⟩
      first | (rw [if_neg (by omega)]; done) | (rw [if_pos (by omega)]; done) | (rw [if_pos (by omega)]; congr 1; done) | (rw [if_pos (by omega)]; congr 1; unfold mi; (repeat' split) <;> omega)
    by_cases e11_2 : w = 2
    · subst e11_2
      refine Gs_tabIn (off := 63) (tgt := 74) p156_11 hw (by omega) (by omega) rfl (by rfl) ?_
      refine Gs_aload_n p156_74 rfl rfl ?_
      refine Gs_getR p156_75 (by first | rfl | assumption | exact (show isTale _ from by assumption).1 | exact (show isCamp _ _ from by assumption).1 | exact (show isRow _ _ from by assumption).1) (by rfl) ?_
      refine Gs_bipush p156_78 (by decide) ?_
      refine Gs_iconst p156_80 ?_
      refine Gs_iload_n p156_81 rfl rfl ?_
      refine Gs_imul p156_82 ?_
      refine Gs_iadd p156_83 ?_
      refine Gs_iload_n p156_84 rfl rfl ?_
      refine Gs_iadd p156_85 ?_
      refine Gs_iconst p156_86 ?_
      refine Gs_isub p156_87 ?_
      refine Gs_iald p156_88 (by first | rfl | assumption | exact (show isTale _ from by assumption).1 | exact (show isCamp _ _ from by assumption).1 | exact (show isRow _ _ from by assumption).1) (by omega) (by omega) (by omega) ?_
      refine Gs_iret p156_89 rfl ⟨_, rfl, ?_⟩
      refine ⟨?_, rfl⟩
      first | (rw [if_neg (by omega)]; done) | (rw [if_pos (by omega)]; done) | (rw [if_pos (by omega)]; congr 1; done) | (rw [if_pos (by omega)]; congr 1; unfold mi; (repeat' split) <;> omega)
    by_cases e11_3 : w = 3
    · subst e11_3
      refine Gs_tabIn (off := 63) (tgt := 74) p156_11 hw (by omega) (by omega) rfl (by rfl) ?_
      refine Gs_aload_n p156_74 rfl rfl ?_
      refine Gs_getR p156_75 (by first | rfl | assumption | exact (show isTale _ from by assumption).1 | exact (show isCamp _ _ from by assumption).1 | exact (show isRow _ _ from by assumption).1) (by rfl) ?_
      refine Gs_bipush p156_78 (by decide) ?_
      refine Gs_iconst p156_80 ?_
      refine Gs_iload_n p156_81 rfl rfl ?_
      refine Gs_imul p156_82 ?_
      refine Gs_iadd p156_83 ?_
      refine Gs_iload_n p156_84 rfl rfl ?_
      refine Gs_iadd p156_85 ?_
      refine Gs_iconst p156_86 ?_
      refine Gs_isub p156_87 ?_
      refine Gs_iald p156_88 (by first | rfl | assumption | exact (show isTale _ from by assumption).1 | exact (show isCamp _ _ from by assumption).1 | exact (show isRow _ _ from by assumption).1) (by omega) (by omega) (by omega) ?_
      refine Gs_iret p156_89 rfl ⟨_, rfl, ?_⟩
      refine ⟨?_, rfl⟩
      first | (rw [if_neg (by omega)]; done) | (rw [if_pos (by omega)]; done) | (rw [if_pos (by omega)]; congr 1; done) | (rw [if_pos (by omega)]; congr 1; unfold mi; (repeat' split) <;> omega)
    by_cases e11_4 : w = 4
    · subst e11_4
      refine Gs_tabIn (off := 63) (tgt := 74) p156_11 hw (by omega) (by omega) rfl (by rfl) ?_
      refine Gs_aload_n p156_74 rfl rfl ?_
      refine Gs_getR p156_75 (by first | rfl | assumption | exact (show isTale _ from by assumption).1 | exact (show isCamp _ _ from by assumption).1 | exact (show isRow _ _ from by assumption).1) (by rfl) ?_
      refine Gs_bipush p156_78 (by decide) ?_
      refine Gs_iconst p156_80 ?_
      refine Gs_iload_n p156_81 rfl rfl ?_
      refine Gs_imul p156_82 ?_
      refine Gs_iadd p156_83 ?_
      refine Gs_iload_n p156_84 rfl rfl ?_
      refine Gs_iadd p156_85 ?_
      refine Gs_iconst p156_86 ?_
      refine Gs_isub p156_87 ?_
      refine Gs_iald p156_88 (by first | rfl | assumption | exact (show isTale _ from by assumption).1 | exact (show isCamp _ _ from by assumption).1 | exact (show isRow _ _ from by assumption).1) (by omega) (by omega) (by omega) ?_
      refine Gs_iret p156_89 rfl ⟨_, rfl, ?_⟩
      refine ⟨?_, rfl⟩
      first | (rw [if_neg (by omega)]; done) | (rw [if_pos (by omega)]; done) | (rw [if_pos (by omega)]; congr 1; done) | (rw [if_pos (by omega)]; congr 1; unfold mi; (repeat' split) <;> omega)
    by_cases e11_5 : w = 5
    · subst e11_5
      refine Gs_tabIn (off := 63) (tgt := 74) p156_11 hw (by omega) (by omega) rfl (by rfl) ?_
      refine Gs_aload_n p156_74 rfl rfl ?_
      refine Gs_getR p156_75 (by first | rfl | assumption | exact (show isTale _ from by assumption).1 | exact (show isCamp _ _ from by assumption).1 | exact (show isRow _ _ from by assumption).1) (by rfl) ?_
      refine Gs_bipush p156_78 (by decide) ?_
      refine Gs_iconst p156_80 ?_
      refine Gs_iload_n p156_81 rfl rfl ?_
      refine Gs_imul p156_82 ?_
      refine Gs_iadd p156_83 ?_
      refine Gs_iload_n p156_84 rfl rfl ?_
      refine Gs_iadd p156_85 ?_
      refine Gs_iconst p156_86 ?_
      refine Gs_isub p156_87 ?_
      refine Gs_iald p156_88 (by first | rfl | assumption | exact (show isTale _ from by assumption).1 | exact (show isCamp _ _ from by assumption).1 | exact (show isRow _ _ from by assumption).1) (by omega) (by omega) (by omega) ?_
      refine Gs_iret p156_89 rfl ⟨_, rfl, ?_⟩
      refine ⟨?_, rfl⟩
      first | (rw [if_neg (by omega)]; done) | (rw [if_pos (by omega)]; done) | (rw [if_pos (by omega)]; congr 1; done) | (rw [if_pos (by omega)]; congr 1; unfold mi; (repeat' split) <;> omega)
    by_cases e11_6 : w = 6
    · subst e11_6
      refine Gs_tabIn (off := 79) (tgt := 90) p156_11 hw (by omega) (by omega) rfl (by rfl) ?_
      refine Gs_aload_n p156_90 rfl rfl ?_
      refine Gs_getR p156_91 (by first | rfl | assumption | exact (show isTale _ from by assumption).1 | exact (show isCamp _ _ from by assumption).1 | exact (show isRow _ _ from by assumption).1) (by rfl) ?_
      refine Gs_bipush p156_94 (by decide) ?_
      refine Gs_iload_n p156_96 rfl rfl ?_
      refine Gs_iadd p156_97 ?_
      refine Gs_iald p156_98 (by first | rfl | assumption | exact (show isTale _ from by assumption).1 | exact (show isCamp _ _ from by assumption).1 | exact (show isRow _ _ from by assumption).1) (by omega) (by omega) (by omega) ?_
      refine Gs_iret p156_99 rfl ⟨_, rfl, ?_⟩
      refine ⟨?_, rfl⟩
      first | (rw [if_neg (by omega)]; done) | (rw [if_pos (by omega)]; done) | (rw [if_pos (by omega)]; congr 1; done) | (rw [if_pos (by omega)]; congr 1; unfold mi; (repeat' split) <;> omega)
    by_cases e11_7 : w = 7
    · subst e11_7
      refine Gs_tabIn (off := 89) (tgt := 100) p156_11 hw (by omega) (by omega) rfl (by rfl) ?_
      refine Gs_aload_n p156_100 rfl rfl ?_
      refine Gs_getR p156_101 (by first | rfl | assumption | exact (show isTale _ from by assumption).1 | exact (show isCamp _ _ from by assumption).1 | exact (show isRow _ _ from by assumption).1) (by rfl) ?_
      refine Gs_bipush p156_104 (by decide) ?_
      refine Gs_iload_n p156_106 rfl rfl ?_
      refine Gs_iadd p156_107 ?_
      refine Gs_iald p156_108 (by first | rfl | assumption | exact (show isTale _ from by assumption).1 | exact (show isCamp _ _ from by assumption).1 | exact (show isRow _ _ from by assumption).1) (by omega) (by omega) (by omega) ?_
      refine Gs_iret p156_109 rfl ⟨_, rfl, ?_⟩
      refine ⟨?_, rfl⟩
      first | (rw [if_neg (by omega)]; done) | (rw [if_pos (by omega)]; done) | (rw [if_pos (by omega)]; congr 1; done) | (rw [if_pos (by omega)]; congr 1; unfold mi; (repeat' split) <;> omega)
    refine Gs_tabOut (tgt := 110) p156_11 hw (by omega) (by rfl) ?_
    refine Gs_iconst p156_110 ?_
    refine Gs_iret p156_111 rfl ⟨_, rfl, ?_⟩
    refine ⟨?_, rfl⟩
    first | (rw [if_neg (by omega)]; done) | (rw [if_pos (by omega)]; done) | (rw [if_pos (by omega)]; congr 1; done) | (rw [if_pos (by omega)]; congr 1; unfold mi; (repeat' split) <;> omega)
  · refine Gs_iconst p156_8 ?_
    refine Gs_iret p156_9 rfl ⟨_, rfl, ?_⟩
    refine ⟨?_, rfl⟩
    first | (rw [if_neg (by omega)]; done) | (rw [if_pos (by omega)]; done) | (rw [if_pos (by omega)]; congr 1; done) | (rw [if_pos (by omega)]; congr 1; unfold mi; (repeat' split) <;> omega)

theorem T_company {X : vX} {K : Int} {s : St} (hR : Rel K s) (hK : K < 512) {x1 x2 : Int} (g1 : rg x1) (g2 : rg x2) : Both X K s 99 156 [.int (iI x1), .int (iI x2)] := by
  obtain ⟨h0, h1, h2, h3, h4, h5, h6⟩ := id hR
  refine Both.q hR (k_company g1 g2 h4.1) (m_company g1 g2 hR.MT) (by decide) (by decide) ?_ ?_ (Kept.rfl' s)
  · by_cases c : (0 ≤ x1 ∧ x1 < vA s 96 2) ∧ (0 ≤ x2 ∧ x2 ≤ 7)
    · rw [if_pos c, if_pos c, h4.v0 c.1.1 c.1.2 c.2.1 (by omega)]
    · rw [if_neg c, if_neg c]
  · split
    · have := h4.1.r (k := x1) (w := x2) (by omega) (by omega) (by omega) (by omega)
      exact ⟨by omega, by omega⟩
    · exact ⟨by omega, by omega⟩
/-- how long a fire is in from hour i on -/
def lastR (R : Int → Int) (l : Int) : Nat → Int → Int → Int
  | 0, _, _ => -4
  | f + 1, i, h => if h < 1 then i else lastR R l f (i + 1) (burntI h l (R i))
theorem lastR_s (R : Int → Int) (l : Int) (f : Nat) (i h : Int) : lastR R l (f + 1) i h = if h < 1 then i else lastR R l f (i + 1) (burntI h l (R i)) := rfl
theorem lastR_b {R : Int → Int} {l : Int} : ∀ (f : Nat) (i h : Int), 0 ≤ i → -4 ≤ lastR R l f i h ∧ lastR R l f i h ≤ i + f := by
  intro f
  induction f with
  | zero => intro i h hi; show -4 ≤ (-4 : Int) ∧ (-4 : Int) ≤ _; omega
  | succ f ih =>
    intro i h hi
    rw [lastR_s]
    split
    · omega
    · have := ih (i + 1) (burntI h l (R i)) (by omega)
      omega
set_option maxHeartbeats 1000000 in
set_option maxRecDepth 4000 in
theorem c_hoursLeft {X : vX} {s : St} {c t : Nat} {n : Int} (hc : isCamp c t) (hk : CampOk s c n) (ht : isTale t) (hT : TaleOk s t) {k : Int} (h0 : 0 ≤ k) (h1 : k < n) : OkI X 2 20 [.ref c, .int (iI k)] s (Is1 (lastR (fun x => rnI s t (vF s c 2 + x)) (cg s c k 6) 61 0 (cg s c k 0)) s) := by
  refine Ok.of (r := vm_m20) (ls := [some (.ref c), some (.int (iI k)), none, none]) rfl (Nat.le_of_ble_eq_true rfl) rfl (fun d hd => ?_)
  obtain ⟨hy, hr⟩ := id hc
  obtain ⟨k1, k2, k3, k4, k5, k6⟩ := id hk
  have b0 := hk.b h0 h1 (w := 0) (by omega) (by omega)
  have e0 : loW 0 = 0 ∧ hiW 0 = 20 := by decide
  generalize hA : lastR (fun x => rnI s t (vF s c 2 + x)) (cg s c k 6) 61 0 (cg s c k 0) = A
  refine Gs_aload_n p20_0 rfl rfl ?_
  refine Gs_iload_n p20_1 rfl rfl ?_
  refine Gs_iconst p20_2 ?_
  refine Gs_callV2I p20_3 (by rfl) (by rfl) (by first | rfl | assumption | exact (show isTale _ from by assumption).1 | exact (show isCamp _ _ from by assumption).1 | exact (show isRow _ _ from by assumption).1) (Nat.le_of_ble_eq_true rfl) (by decide) (c_Cget hc hk h0 h1 (by omega) (by omega)) (by omega) ?_
  refine Gs_ist2 p20_6 (by first | rfl | assumption) ?_
  refine Gs_iconst p20_7 ?_
  refine Gs_ist3 p20_8 (by first | rfl | assumption) ?_
  refine dn (n := (61 : Int)) (P := fun i => ∀ h, 0 ≤ h → h ≤ 20 → lastR (fun x => rnI s t (vF s c 2 + x)) (cg s c k 6) (61 - i).toNat i h = A → Gs X d 20 9 [some (.ref c), some (.int (iI k)), some (.int (iI h)), some (.int (iI i))] [] (s) (fun v t => ∃ z : Int, v = some (.int (iI z)) ∧ (Is1 A s) z t)) (by omega) (fun i hi hin ih => ?_) ?_ (cg s c k 0) (by omega) (by omega) hA
  · show ∀ h, 0 ≤ h → h ≤ 20 → lastR (fun x => rnI s t (vF s c 2 + x)) (cg s c k 6) (61 - i).toNat i h = A → Gs X d 20 9 [some (.ref c), some (.int (iI k)), some (.int (iI h)), some (.int (iI i))] [] (s) _
    intro h q0 q1 e
    rw [show (61 - i).toNat = (61 - (i + 1)).toNat + 1 by omega, lastR_s] at e
    have b6 := hk.r h0 h1 (w := 6) (by omega) (by omega)
    have br := rnI_b hT (vF s c 2 + i)
    refine Gs_iload_n p20_9 rfl rfl ?_
    refine Gs_bipush p20_10 (by decide) ?_
    refine Gs_icmp_gt (tgt := 53) p20_12 (by rfl) (by first | assumption | exact ⟨by omega, by omega⟩ | (split <;> exact ⟨by omega, by omega⟩)) (by first | assumption | exact ⟨by omega, by omega⟩ | (split <;> exact ⟨by omega, by omega⟩)) (fun hc12 => absurd ‹_› (by first | omega | assumption)) (fun hc12 => ?_)
    refine Gs_iload_n p20_15 rfl rfl ?_
    refine Gs_iconst p20_16 ?_
    refine Gs_icmp_ge (tgt := 22) p20_17 (by rfl) (by first | assumption | exact ⟨by omega, by omega⟩ | (split <;> exact ⟨by omega, by omega⟩)) (by first | assumption | exact ⟨by omega, by omega⟩ | (split <;> exact ⟨by omega, by omega⟩)) (fun h17 => ?_) (fun h17 => ?_)
    · rw [if_neg (by omega)] at e
      have bb := burntI_b (h := h) (last := cg s c k 6) q1 br.1
      refine Gs_iload_n p20_22 rfl rfl ?_
      refine Gs_aload_n p20_23 rfl rfl ?_
      refine Gs_iload_n p20_24 rfl rfl ?_
      refine Gs_bipush p20_25 (by decide) ?_
      refine Gs_callV2I p20_27 (by rfl) (by rfl) (by first | rfl | assumption | exact (show isTale _ from by assumption).1 | exact (show isCamp _ _ from by assumption).1 | exact (show isRow _ _ from by assumption).1) (Nat.le_of_ble_eq_true rfl) (by decide) (c_Cget hc hk h0 h1 (by omega) (by omega)) (by omega) ?_
      refine Gs_aload_n p20_30 rfl rfl ?_
      refine Gs_getR p20_31 (by first | rfl | assumption | exact (show isTale _ from by assumption).1 | exact (show isCamp _ _ from by assumption).1 | exact (show isRow _ _ from by assumption).1) (by rfl) ?_
      refine Gs_aload_n p20_34 rfl rfl ?_
      refine Gs_getI p20_35 (by first | rfl | assumption | exact (show isTale _ from by assumption).1 | exact (show isCamp _ _ from by assumption).1 | exact (show isRow _ _ from by assumption).1) (by rfl) ?_
      refine Gs_iload_n p20_38 rfl rfl ?_
      refine Gs_iadd p20_39 ?_
      refine Gs_callV1I p20_40 (by rfl) (by rfl) (by first | rfl | assumption | exact (show isTale _ from by assumption).1 | exact (show isCamp _ _ from by assumption).1 | exact (show isRow _ _ from by assumption).1) (Nat.le_of_ble_eq_true rfl) (by decide) (c_rainAt ht hT (by omega) (by omega)) (by omega) ?_
      refine Gs_callS3I p20_43 (by rfl) (Nat.le_of_ble_eq_true rfl) (by decide) (c_burnt (by omega) (by omega) br.1 (by omega) ⟨by omega, by omega⟩) (by omega) ?_
      refine Gs_ist2 p20_46 (by first | rfl | assumption) ?_
      refine Gs_iinc3 (b53 := none) p20_47 (by first | rfl | assumption) ?_
      refine Gs_goto (tgt := 9) p20_50 (by rfl) ?_
      exact ih _ bb.1 bb.2 e
    · refine Gs_iload_n p20_20 rfl rfl ?_
      refine Gs_iret p20_21 rfl ⟨_, rfl, ?_⟩
      rw [if_pos (by omega)] at e
      exact ⟨e, rfl⟩
  · show ∀ h, 0 ≤ h → h ≤ 20 → lastR (fun x => rnI s t (vF s c 2 + x)) (cg s c k 6) (61 - ((61 : Int))).toNat ((61 : Int)) h = A → Gs X d 20 9 [some (.ref c), some (.int (iI k)), some (.int (iI h)), some (.int (iI ((61 : Int))))] [] (s) _
    intro h q0 q1 e
    refine Gs_iload_n p20_9 rfl rfl ?_
    refine Gs_bipush p20_10 (by decide) ?_
    refine Gs_icmp_gt (tgt := 53) p20_12 (by rfl) (by first | assumption | exact ⟨by omega, by omega⟩ | (split <;> exact ⟨by omega, by omega⟩)) (by first | assumption | exact ⟨by omega, by omega⟩ | (split <;> exact ⟨by omega, by omega⟩)) (fun hc12 => ?_) (fun hc12 => absurd ‹_› (by first | omega | assumption))
    refine Gs_bipush p20_53 (by decide) ?_
    refine Gs_iret p20_55 rfl ⟨_, rfl, ?_⟩
    exact ⟨e, rfl⟩

set_option maxHeartbeats 1000000 in
set_option maxRecDepth 4000 in
theorem k_lasts {X : vX} {s : St} {k n : Int} (hz : rg k) (hT : TaleOk s 5) (hC : CampOk s 14 n) : OkI X 3 106 [.ref 0, .int (iI k)] s (Is1 (if 0 ≤ k ∧ k < n then lastR (fun i => rnI s 5 (vF s 14 2 + i)) (cg s 14 k 6) 61 0 (cg s 14 k 0) else -1) s) := by
  refine Ok.of (r := vm_m106) (ls := [some (.ref 0), some (.int (iI k))]) rfl (Nat.le_of_ble_eq_true rfl) rfl (fun d hd => ?_)
  refine Gs_aload_n p106_0 rfl rfl ?_
  refine Gs_getR p106_1 (by first | rfl | assumption | exact (show isTale _ from by assumption).1 | exact (show isCamp _ _ from by assumption).1 | exact (show isRow _ _ from by assumption).1) (by rfl) ?_
  refine Gs_iload_n p106_4 rfl rfl ?_
  refine Gs_callV1I p106_5 (by rfl) (by rfl) (by first | rfl | assumption | exact (show isTale _ from by assumption).1 | exact (show isCamp _ _ from by assumption).1 | exact (show isRow _ _ from by assumption).1) (Nat.le_of_ble_eq_true rfl) (by decide) (c_isCompany camp14 hC hz) (by omega) ?_
  refine Gs_ifb_eq (tgt := 22) p106_8 (by rfl) (fun h8 => ?_) (fun h8 => ?_)
  · refine Gs_iconst p106_22 ?_
    refine Gs_iret p106_23 rfl ⟨_, rfl, ?_⟩
    refine ⟨?_, rfl⟩
    (repeat' split) <;> first | rfl | (exfalso; omega) | omega
  · refine Gs_aload_n p106_11 rfl rfl ?_
    refine Gs_getR p106_12 (by first | rfl | assumption | exact (show isTale _ from by assumption).1 | exact (show isCamp _ _ from by assumption).1 | exact (show isRow _ _ from by assumption).1) (by rfl) ?_
    refine Gs_iload_n p106_15 rfl rfl ?_
    refine Gs_callV1I p106_16 (by rfl) (by rfl) (by first | rfl | assumption | exact (show isTale _ from by assumption).1 | exact (show isCamp _ _ from by assumption).1 | exact (show isRow _ _ from by assumption).1) (Nat.le_of_ble_eq_true rfl) (by decide) (c_hoursLeft camp14 hC tale5 hT (by omega) (by omega)) (by omega) ?_
    refine Gs_goto (tgt := 23) p106_19 (by rfl) ?_
    refine Gs_iret p106_23 rfl ⟨_, rfl, ?_⟩
    refine ⟨?_, rfl⟩
    (repeat' split) <;> first | rfl | (exfalso; omega) | omega

set_option maxHeartbeats 1000000 in
set_option maxRecDepth 4000 in
theorem m_lasts {X : vX} {s : St} {k : Int} (hz : rg k) (hT : MT s) (hC : MC s 98 (vA s 96 2)) : OkI X 2 175 [.ref 95, .int (iI k)] s (Is1 (if 0 ≤ k ∧ k < vA s 96 2 then lastR (fun x => rnM s (vA s 98 32 + x)) (vA s 98 (24 + k)) 61 0 (vA s 98 (0 + k)) else -1) s) := by
  refine Ok.of (r := vm_m175) (ls := [some (.ref 95), some (.int (iI k)), none, none]) rfl (Nat.le_of_ble_eq_true rfl) rfl (fun d hd => ?_)
  obtain ⟨a1, a2, a3, a4, a5, a6, a7, a8⟩ := id hT
  obtain ⟨k1, k2, k3, k4⟩ := id hC
  refine Gs_aload_n p175_0 rfl rfl ?_
  refine Gs_iload_n p175_1 rfl rfl ?_
  refine Gs_callV1I p175_2 (by rfl) (by rfl) (by first | rfl | assumption | exact (show isTale _ from by assumption).1 | exact (show isCamp _ _ from by assumption).1 | exact (show isRow _ _ from by assumption).1) (Nat.le_of_ble_eq_true rfl) (by decide) (c_misCompany hT hz) (by omega) ?_
  refine Gs_ifb_ne (tgt := 10) p175_5 (by rfl) (fun h5 => ?_) (fun h5 => ?_)
  · rw [if_pos (by omega)]
    generalize hA : lastR (fun x => rnM s (vA s 98 32 + x)) (vA s 98 (24 + k)) 61 0 (vA s 98 (0 + k)) = A
    have b0 := k3 (0 + k) (by omega) (by omega)
    have b6 := (k4 k (by omega) (by omega)).2.1
    refine Gs_aload_n p175_10 rfl rfl ?_
    refine Gs_getR p175_11 (by first | rfl | assumption | exact (show isTale _ from by assumption).1 | exact (show isCamp _ _ from by assumption).1 | exact (show isRow _ _ from by assumption).1) (by rfl) ?_
    refine Gs_iconst p175_14 ?_
    refine Gs_iload_n p175_15 rfl rfl ?_
    refine Gs_iadd p175_16 ?_
    refine Gs_iald p175_17 (by first | rfl | assumption | exact (show isTale _ from by assumption).1 | exact (show isCamp _ _ from by assumption).1 | exact (show isRow _ _ from by assumption).1) (by omega) (by omega) (by omega) ?_
    refine Gs_ist2 p175_18 (by first | rfl | assumption) ?_
    refine Gs_iconst p175_19 ?_
    refine Gs_ist3 p175_20 (by first | rfl | assumption) ?_
    refine dn (n := (61 : Int)) (P := fun i => ∀ h, 0 ≤ h → h ≤ 20 → lastR (fun x => rnM s (vA s 98 32 + x)) (vA s 98 (24 + k)) (61 - i).toNat i h = A → Gs X d 175 21 [some (.ref 95), some (.int (iI k)), some (.int (iI h)), some (.int (iI i))] [] (s) (fun v t => ∃ z : Int, v = some (.int (iI z)) ∧ (Is1 A s) z t)) (by omega) (fun i hi hin ih => ?_) ?_ (vA s 98 (0 + k)) b0.1 b0.2 hA
    · show ∀ h, 0 ≤ h → h ≤ 20 → lastR (fun x => rnM s (vA s 98 32 + x)) (vA s 98 (24 + k)) (61 - i).toNat i h = A → Gs X d 175 21 [some (.ref 95), some (.int (iI k)), some (.int (iI h)), some (.int (iI i))] [] (s) _
      intro h q0 q1 e
      rw [show (61 - i).toNat = (61 - (i + 1)).toNat + 1 by omega, lastR_s] at e
      have br := rnM_b hT (vA s 98 32 + i)
      refine Gs_iload_n p175_21 rfl rfl ?_
      refine Gs_bipush p175_22 (by decide) ?_
      refine Gs_icmp_ge (tgt := 66) p175_24 (by rfl) (by first | assumption | exact ⟨by omega, by omega⟩ | (split <;> exact ⟨by omega, by omega⟩)) (by first | assumption | exact ⟨by omega, by omega⟩ | (split <;> exact ⟨by omega, by omega⟩)) (fun hc24 => absurd ‹_› (by first | omega | assumption)) (fun hc24 => ?_)
      refine Gs_iload_n p175_27 rfl rfl ?_
      refine Gs_if_ne (tgt := 33) p175_28 (by rfl) (by first | assumption | exact ⟨by omega, by omega⟩ | (split <;> exact ⟨by omega, by omega⟩)) (fun h28 => ?_) (fun h28 => ?_)
      · rw [if_neg (by omega)] at e
        have bb := burntI_b (h := h) (last := vA s 98 (24 + k)) q1 br.1
        refine Gs_iload_n p175_33 rfl rfl ?_
        refine Gs_aload_n p175_34 rfl rfl ?_
        refine Gs_getR p175_35 (by first | rfl | assumption | exact (show isTale _ from by assumption).1 | exact (show isCamp _ _ from by assumption).1 | exact (show isRow _ _ from by assumption).1) (by rfl) ?_
        refine Gs_bipush p175_38 (by decide) ?_
        refine Gs_iload_n p175_40 rfl rfl ?_
        refine Gs_iadd p175_41 ?_
        refine Gs_iald p175_42 (by first | rfl | assumption | exact (show isTale _ from by assumption).1 | exact (show isCamp _ _ from by assumption).1 | exact (show isRow _ _ from by assumption).1) (by omega) (by omega) (by omega) ?_
        refine Gs_aload_n p175_43 rfl rfl ?_
        refine Gs_aload_n p175_44 rfl rfl ?_
        refine Gs_getR p175_45 (by first | rfl | assumption | exact (show isTale _ from by assumption).1 | exact (show isCamp _ _ from by assumption).1 | exact (show isRow _ _ from by assumption).1) (by rfl) ?_
        refine Gs_bipush p175_48 (by decide) ?_
        refine Gs_iald p175_50 (by first | rfl | assumption | exact (show isTale _ from by assumption).1 | exact (show isCamp _ _ from by assumption).1 | exact (show isRow _ _ from by assumption).1) (by omega) (by omega) (by omega) ?_
        refine Gs_iload_n p175_51 rfl rfl ?_
        refine Gs_iadd p175_52 ?_
        refine Gs_callV1I p175_53 (by rfl) (by rfl) (by first | rfl | assumption | exact (show isTale _ from by assumption).1 | exact (show isCamp _ _ from by assumption).1 | exact (show isRow _ _ from by assumption).1) (Nat.le_of_ble_eq_true rfl) (by decide) (c_mrainAt hT (by omega) (by omega)) (by omega) ?_
        refine Gs_callS3I p175_56 (by rfl) (Nat.le_of_ble_eq_true rfl) (by decide) (c_cooler q0 q1 ⟨by omega, by omega⟩ br.1 (by omega)) (by omega) ?_
        refine Gs_ist2 p175_59 (by first | rfl | assumption) ?_
        refine Gs_iinc3 (b53 := none) p175_60 (by first | rfl | assumption) ?_
        refine Gs_goto (tgt := 21) p175_63 (by rfl) ?_
        exact ih _ bb.1 bb.2 e
      · refine Gs_iload_n p175_31 rfl rfl ?_
        refine Gs_iret p175_32 rfl ⟨_, rfl, ?_⟩
        rw [if_pos (by omega)] at e
        exact ⟨e, rfl⟩
    · show ∀ h, 0 ≤ h → h ≤ 20 → lastR (fun x => rnM s (vA s 98 32 + x)) (vA s 98 (24 + k)) (61 - ((61 : Int))).toNat ((61 : Int)) h = A → Gs X d 175 21 [some (.ref 95), some (.int (iI k)), some (.int (iI h)), some (.int (iI ((61 : Int))))] [] (s) _
      intro h q0 q1 e
      refine Gs_iload_n p175_21 rfl rfl ?_
      refine Gs_bipush p175_22 (by decide) ?_
      refine Gs_icmp_ge (tgt := 66) p175_24 (by rfl) (by first | assumption | exact ⟨by omega, by omega⟩ | (split <;> exact ⟨by omega, by omega⟩)) (by first | assumption | exact ⟨by omega, by omega⟩ | (split <;> exact ⟨by omega, by omega⟩)) (fun hc24 => ?_) (fun hc24 => absurd ‹_› (by first | omega | assumption))
      refine Gs_bipush p175_66 (by decide) ?_
      refine Gs_iret p175_68 rfl ⟨_, rfl, ?_⟩
      exact ⟨e, rfl⟩
  · refine Gs_iconst p175_8 ?_
    refine Gs_iret p175_9 rfl ⟨_, rfl, ?_⟩
    exact ⟨by rw [if_neg (by omega)], rfl⟩

theorem T_lasts {X : vX} {K : Int} {s : St} (hR : Rel K s) (hK : K < 512) {x1 : Int} (g1 : rg x1) : Both X K s 106 175 [.int (iI x1)] := by
  obtain ⟨h0, h1, h2, h3, h4, h5, h6⟩ := id hR
  refine Both.q hR (k_lasts g1 h3.1 h4.1) (m_lasts g1 hR.MT h4.mc) (by decide) (by decide) ?_ ?_ (Kept.rfl' s)
  · by_cases c : 0 ≤ x1 ∧ x1 < vA s 96 2
    · have e1 : (fun i => rnM s (vA s 98 32 + i)) = (fun i => rnI s 5 (vF s 14 2 + i)) := by
        funext i
        rw [h3.rn, show vA s 98 32 = vF s 14 2 from h4.2.1.symm]
      rw [if_pos c, if_pos c, e1, h4.v0 c.1 c.2 (w := 6) (by omega) (by omega), h4.v0 c.1 c.2 (w := 0) (by omega) (by omega), mi_6, mi_0, Int.zero_add]
    · rw [if_neg c, if_neg c]
  · split
    · have := lastR_b (R := fun i => rnI s 5 (vF s 14 2 + i)) (l := cg s 14 x1 6) 61 0 (cg s 14 x1 0) (by omega)
      exact ⟨by omega, by omega⟩
    · exact ⟨by omega, by omega⟩