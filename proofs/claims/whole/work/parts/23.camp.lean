/-! Camp -/
def isCamp (c t : Nat) : Prop := ly c = (0, 0, [some t, some (c + 1), none]) ∧ isRow (c + 1) 32
def loW (w : Int) : Int := if w = 1 then -4 else if w = 6 then -4 else 0
def hiW (w : Int) : Int := if w = 0 then 20 else if w = 1 then 8 else if w ≤ 5 then 99 else if w = 6 then 3 else 100000
theorem loW_b (w : Int) : -4 ≤ loW w := by unfold loW; (repeat' split) <;> omega
theorem hiW_b (w : Int) : hiW w ≤ 100000 := by unfold hiW; (repeat' split) <;> omega
/-- what a camp of n companies holds -/
def CampOk (s : St) (c : Nat) (n : Int) : Prop := 0 ≤ n ∧ n ≤ 4 ∧ vF s (c + 1) 1 = 8 * n ∧ 0 ≤ vF s c 2 ∧ vF s c 2 ≤ 100000 ∧ ∀ k w, 0 ≤ k → k < n → 0 ≤ w → w < 8 → loW w ≤ vA s (c + 2) (k * 8 + w) ∧ vA s (c + 2) (k * 8 + w) ≤ hiW w
theorem CampOk.rg {s : St} {c : Nat} {n : Int} (h : CampOk s c n) {k w : Int} (h0 : 0 ≤ k) (h1 : k < n) (h2 : 0 ≤ w) (h3 : w < 8) : -4 ≤ vA s (c + 2) (k * 8 + w) ∧ vA s (c + 2) (k * 8 + w) ≤ 100000 := by
  have a := h.2.2.2.2.2 k w h0 h1 h2 h3
  have b := loW_b w
  have e := hiW_b w
  omega
theorem CampOk.set {s : St} {c : Nat} {n : Int} (h : CampOk s c n) {k w v : Int} (h0 : 0 ≤ k) (h1 : k < n) (h2 : 0 ≤ w) (h3 : w < 8) (hv : loW w ≤ v ∧ v ≤ hiW w) : CampOk (sA s (c + 2) (k * 8 + w) v) c n := by
  obtain ⟨a1, a2, a3, a4, a5, a6⟩ := h
  refine ⟨a1, a2, a3, a4, a5, fun k' w' b0 b1 b2 b3 => ?_⟩
  rw [vA_sA]
  by_cases e : c + 2 = c + 2 ∧ k' * 8 + w' = k * 8 + w
  · rw [if_pos e]
    have : w' = w := by omega
    rw [this]; exact hv
  · rw [if_neg e]; exact a6 k' w' b0 b1 b2 b3
def cg (s : St) (c : Nat) (k w : Int) : Int := vA s (c + 2) (k * 8 + w)
def cs (s : St) (c : Nat) (k w v : Int) : St := sA s (c + 2) (k * 8 + w) v
theorem cg_cs {s : St} {c : Nat} {k w v k' w' : Int} (h2 : 0 ≤ w) (h3 : w < 8) (b2 : 0 ≤ w') (b3 : w' < 8) : cg (cs s c k w v) c k' w' = if k' = k ∧ w' = w then v else cg s c k' w' := by
  unfold cg cs
  rw [vA_sA]
  by_cases e : k' = k ∧ w' = w
  · rw [if_pos e, if_pos ⟨rfl, by rw [e.1, e.2]⟩]
  · rw [if_neg e, if_neg (by omega)]
theorem CampOk.cs {s : St} {c : Nat} {n : Int} (h : CampOk s c n) {k w v : Int} (h0 : 0 ≤ k) (h1 : k < n) (h2 : 0 ≤ w) (h3 : w < 8) (hv : loW w ≤ v ∧ v ≤ hiW w) : CampOk (cs s c k w v) c n := h.set h0 h1 h2 h3 hv
theorem CampOk.b {s : St} {c : Nat} {n : Int} (h : CampOk s c n) {k w : Int} (h0 : 0 ≤ k) (h1 : k < n) (h2 : 0 ≤ w) (h3 : w < 8) : loW w ≤ cg s c k w ∧ cg s c k w ≤ hiW w := h.2.2.2.2.2 k w h0 h1 h2 h3
theorem CampOk.r {s : St} {c : Nat} {n : Int} (h : CampOk s c n) {k w : Int} (h0 : 0 ≤ k) (h1 : k < n) (h2 : 0 ≤ w) (h3 : w < 8) : -4 ≤ cg s c k w ∧ cg s c k w ≤ 100000 := h.rg h0 h1 h2 h3
set_option maxHeartbeats 1000000 in
set_option maxRecDepth 4000 in
theorem c_companies {X : vX} {s : St} {c t : Nat} {n : Int} (hc : isCamp c t) (hk : CampOk s c n) : OkI X 1 4 [.ref c] s (Is1 n s) := by
  refine Ok.of (r := vm_m4) (ls := [some (.ref c)]) rfl (Nat.le_of_ble_eq_true rfl) rfl (fun d hd => ?_)
  obtain ⟨hy, hr⟩ := id hc
  obtain ⟨k1, k2, k3, k4, k5, k6⟩ := id hk
  refine Gs_aload_n p4_0 rfl rfl ?_
  refine Gs_getR p4_1 (by first | rfl | assumption | exact (show isTale _ from by assumption).1 | exact (show isCamp _ _ from by assumption).1 | exact (show isRow _ _ from by assumption).1) (by rfl) ?_
  refine Gs_callV0I p4_4 (by rfl) (by rfl) hr.1 (Nat.le_of_ble_eq_true rfl) (by decide) (c_size hr) (by omega) ?_
  refine Gs_bipush p4_7 (by decide) ?_
  refine Gs_idiv p4_9 (by omega) (by omega) (by omega) (by omega) ?_
  refine Gs_iret p4_10 rfl ⟨_, rfl, ?_⟩
  exact ⟨by omega, rfl⟩

set_option maxHeartbeats 1000000 in
set_option maxRecDepth 4000 in
theorem c_hours {X : vX} {s : St} {c t : Nat} {n : Int} (hc : isCamp c t) (hk : CampOk s c n) : OkI X 0 5 [.ref c] s (Is1 (vF s c 2) s) := by
  refine Ok.of (r := vm_m5) (ls := [some (.ref c)]) rfl (Nat.le_of_ble_eq_true rfl) rfl (fun d hd => ?_)
  obtain ⟨hy, hr⟩ := id hc
  obtain ⟨k1, k2, k3, k4, k5, k6⟩ := id hk
  refine Gs_aload_n p5_0 rfl rfl ?_
  refine Gs_getI p5_1 (by first | rfl | assumption | exact (show isTale _ from by assumption).1 | exact (show isCamp _ _ from by assumption).1 | exact (show isRow _ _ from by assumption).1) (by rfl) ?_
  refine Gs_iret p5_4 rfl ⟨_, rfl, ?_⟩
  first | exact ⟨rfl, rfl⟩ | exact ⟨by ((repeat' split) <;> omega), rfl⟩ | (simp only [Is1, Is0]; refine ⟨?_, rfl⟩; (repeat' split) <;> omega)

set_option maxHeartbeats 1000000 in
set_option maxRecDepth 4000 in
theorem c_isCompany {X : vX} {s : St} {c t : Nat} {n : Int} (hc : isCamp c t) (hk : CampOk s c n) {k : Int} (hz : rg k) : OkI X 2 6 [.ref c, .int (iI k)] s (Is1 (if 0 ≤ k ∧ k < n then 1 else 0) s) := by
  refine Ok.of (r := vm_m6) (ls := [some (.ref c), some (.int (iI k))]) rfl (Nat.le_of_ble_eq_true rfl) rfl (fun d hd => ?_)
  obtain ⟨hy, hr⟩ := id hc
  obtain ⟨k1, k2, k3, k4, k5, k6⟩ := id hk
  refine Gs_iload_n p6_0 rfl rfl ?_
  refine Gs_iconst p6_1 ?_
  refine Gs_aload_n p6_2 rfl rfl ?_
  refine Gs_callV0I p6_3 (by rfl) (by rfl) (by first | rfl | assumption | exact (show isTale _ from by assumption).1 | exact (show isCamp _ _ from by assumption).1 | exact (show isRow _ _ from by assumption).1) (Nat.le_of_ble_eq_true rfl) (by decide) (c_companies hc hk) (by omega) ?_
  refine Gs_iconst p6_6 ?_
  refine Gs_isub p6_7 ?_
  refine Gs_callS3I p6_8 (by rfl) (Nat.le_of_ble_eq_true rfl) (by decide) (c_within hz ⟨by omega, by omega⟩ ⟨by omega, by omega⟩) (by omega) ?_
  refine Gs_zret p6_11 rfl (by first | exact Or.inl rfl | exact Or.inr rfl | (split <;> first | exact Or.inl rfl | exact Or.inr rfl)) ⟨_, rfl, ?_⟩
  refine ⟨?_, rfl⟩
  (repeat' split) <;> omega

set_option maxHeartbeats 1000000 in
set_option maxRecDepth 4000 in
theorem c_Cget {X : vX} {s : St} {c t : Nat} {n : Int} (hc : isCamp c t) (hk : CampOk s c n) {k : Int} (h0 : 0 ≤ k) (h1 : k < n) {w : Int} (h2 : 0 ≤ w) (h3 : w < 8) : OkI X 1 7 [.ref c, .int (iI k), .int (iI w)] s (Is1 (cg s c k w) s) := by
  refine Ok.of (r := vm_m7) (ls := [some (.ref c), some (.int (iI k)), some (.int (iI w))]) rfl (Nat.le_of_ble_eq_true rfl) rfl (fun d hd => ?_)
  obtain ⟨hy, hr⟩ := id hc
  obtain ⟨k1, k2, k3, k4, k5, k6⟩ := id hk
  refine Gs_aload_n p7_0 rfl rfl ?_
  refine Gs_getR p7_1 (by first | rfl | assumption | exact (show isTale _ from by assumption).1 | exact (show isCamp _ _ from by assumption).1 | exact (show isRow _ _ from by assumption).1) (by rfl) ?_
  refine Gs_iload_n p7_4 rfl rfl ?_
  refine Gs_bipush p7_5 (by decide) ?_
  refine Gs_imul p7_7 ?_
  refine Gs_iload_n p7_8 rfl rfl ?_
  refine Gs_iadd p7_9 ?_
  refine Gs_callV1I p7_10 (by rfl) (by rfl) hr.1 (Nat.le_of_ble_eq_true rfl) (by decide) (c_agot (a := c + 2) hr rfl ⟨by omega, by omega⟩ (by omega) (by omega) (by omega) (by omega)) (by omega) ?_
  refine Gs_iret p7_13 rfl ⟨_, rfl, ?_⟩
  exact ⟨rfl, rfl⟩

set_option maxHeartbeats 1000000 in
set_option maxRecDepth 4000 in
theorem c_Cset {X : vX} {s : St} {c t : Nat} {n : Int} (hc : isCamp c t) (hk : CampOk s c n) {k : Int} (h0 : 0 ≤ k) (h1 : k < n) {w : Int} (h2 : 0 ≤ w) (h3 : w < 8) {v : Int} : OkV X 1 8 [.ref c, .int (iI k), .int (iI w), .int (iI v)] s (Is0 (cs s c k w v)) := by
  refine Ok.of (r := vm_m8) (ls := [some (.ref c), some (.int (iI k)), some (.int (iI w)), some (.int (iI v))]) rfl (Nat.le_of_ble_eq_true rfl) rfl (fun d hd => ?_)
  obtain ⟨hy, hr⟩ := id hc
  obtain ⟨k1, k2, k3, k4, k5, k6⟩ := id hk
  refine Gs_aload_n p8_0 rfl rfl ?_
  refine Gs_getR p8_1 (by first | rfl | assumption | exact (show isTale _ from by assumption).1 | exact (show isCamp _ _ from by assumption).1 | exact (show isRow _ _ from by assumption).1) (by rfl) ?_
  refine Gs_iload_n p8_4 rfl rfl ?_
  refine Gs_bipush p8_5 (by decide) ?_
  refine Gs_imul p8_7 ?_
  refine Gs_iload_n p8_8 rfl rfl ?_
  refine Gs_iadd p8_9 ?_
  refine Gs_iload_n p8_10 rfl rfl ?_
  refine Gs_callV2W p8_11 (by rfl) (by rfl) hr.1 (Nat.le_of_ble_eq_true rfl) (by decide) (c_aset (a := c + 2) hr rfl ⟨by omega, by omega⟩ (by omega) (by omega) (by omega) (by omega)) (by omega) ?_
  refine Gs_vret p8_14 rfl ⟨rfl, ?_⟩
  rfl

set_option maxHeartbeats 1000000 in
set_option maxRecDepth 4000 in
theorem c_Cchange {X : vX} {s : St} {c t : Nat} {n : Int} (hc : isCamp c t) (hk : CampOk s c n) {k : Int} (h0 : 0 ≤ k) (h1 : k < n) {w : Int} (h2 : 0 ≤ w) (h3 : w < 8) {v : Int} : OkV X 2 9 [.ref c, .int (iI k), .int (iI w), .int (iI v)] s (Is0 (cs s c k w (cg s c k w + v))) := by
  refine Ok.of (r := vm_m9) (ls := [some (.ref c), some (.int (iI k)), some (.int (iI w)), some (.int (iI v))]) rfl (Nat.le_of_ble_eq_true rfl) rfl (fun d hd => ?_)
  obtain ⟨hy, hr⟩ := id hc
  obtain ⟨k1, k2, k3, k4, k5, k6⟩ := id hk
  refine Gs_aload_n p9_0 rfl rfl ?_
  refine Gs_iload_n p9_1 rfl rfl ?_
  refine Gs_iload_n p9_2 rfl rfl ?_
  refine Gs_aload_n p9_3 rfl rfl ?_
  refine Gs_iload_n p9_4 rfl rfl ?_
  refine Gs_iload_n p9_5 rfl rfl ?_
  refine Gs_callV2I p9_6 (by rfl) (by rfl) (by first | rfl | assumption | exact (show isTale _ from by assumption).1 | exact (show isCamp _ _ from by assumption).1 | exact (show isRow _ _ from by assumption).1) (Nat.le_of_ble_eq_true rfl) (by decide) (c_Cget hc hk h0 h1 h2 h3) (by omega) ?_
  refine Gs_iload_n p9_9 rfl rfl ?_
  refine Gs_iadd p9_10 ?_
  refine Gs_callV3W p9_11 (by rfl) (by rfl) (by first | rfl | assumption | exact (show isTale _ from by assumption).1 | exact (show isCamp _ _ from by assumption).1 | exact (show isRow _ _ from by assumption).1) (Nat.le_of_ble_eq_true rfl) (by decide) (c_Cset hc hk h0 h1 h2 h3) (by omega) ?_
  refine Gs_vret p9_14 rfl ⟨rfl, ?_⟩
  rfl

set_option maxHeartbeats 1000000 in
set_option maxRecDepth 4000 in
theorem c_isIn {X : vX} {s : St} {c t : Nat} {n : Int} (hc : isCamp c t) (hk : CampOk s c n) {k : Int} (h0 : 0 ≤ k) (h1 : k < n) : OkI X 2 10 [.ref c, .int (iI k)] s (Is1 (if 1 ≤ cg s c k 0 then 1 else 0) s) := by
  refine Ok.of (r := vm_m10) (ls := [some (.ref c), some (.int (iI k))]) rfl (Nat.le_of_ble_eq_true rfl) rfl (fun d hd => ?_)
  obtain ⟨hy, hr⟩ := id hc
  obtain ⟨k1, k2, k3, k4, k5, k6⟩ := id hk
  have hb := hk.r h0 h1 (w := 0) (by omega) (by omega)
  refine Gs_aload_n p10_0 rfl rfl ?_
  refine Gs_iload_n p10_1 rfl rfl ?_
  refine Gs_iconst p10_2 ?_
  refine Gs_callV2I p10_3 (by rfl) (by rfl) (by first | rfl | assumption | exact (show isTale _ from by assumption).1 | exact (show isCamp _ _ from by assumption).1 | exact (show isRow _ _ from by assumption).1) (Nat.le_of_ble_eq_true rfl) (by decide) (c_Cget hc hk h0 h1 (by omega) (by omega)) (by omega) ?_
  refine Gs_iconst p10_6 ?_
  refine Gs_icmp_lt (tgt := 14) p10_7 (by rfl) (by first | assumption | exact ⟨by omega, by omega⟩ | (split <;> exact ⟨by omega, by omega⟩)) (by first | assumption | exact ⟨by omega, by omega⟩ | (split <;> exact ⟨by omega, by omega⟩)) (fun h7 => ?_) (fun h7 => ?_)
  · refine Gs_iconst p10_14 ?_
    refine Gs_zret p10_15 rfl (by first | exact Or.inl rfl | exact Or.inr rfl | (split <;> first | exact Or.inl rfl | exact Or.inr rfl)) ⟨_, rfl, ?_⟩
    first | exact ⟨rfl, rfl⟩ | exact ⟨by ((repeat' split) <;> omega), rfl⟩ | (simp only [Is1, Is0]; refine ⟨?_, rfl⟩; (repeat' split) <;> omega)
  · refine Gs_iconst p10_10 ?_
    refine Gs_goto (tgt := 15) p10_11 (by rfl) ?_
    refine Gs_zret p10_15 rfl (by first | exact Or.inl rfl | exact Or.inr rfl | (split <;> first | exact Or.inl rfl | exact Or.inr rfl)) ⟨_, rfl, ?_⟩
    first | exact ⟨rfl, rfl⟩ | exact ⟨by ((repeat' split) <;> omega), rfl⟩ | (simp only [Is1, Is0]; refine ⟨?_, rfl⟩; (repeat' split) <;> omega)

set_option maxHeartbeats 1000000 in
set_option maxRecDepth 4000 in
theorem c_canFeed {X : vX} {s : St} {c t : Nat} {n : Int} (hc : isCamp c t) (hk : CampOk s c n) {k : Int} (h0 : 0 ≤ k) (h1 : k < n) {w : Int} (h2 : 0 ≤ w) (h3 : w < 4) : OkI X 3 11 [.ref c, .int (iI k), .int (iI w)] s (Is1 (if 1 ≤ cg s c k 0 ∧ 1 ≤ cg s c k (2 + w) then 1 else 0) s) := by
  refine Ok.of (r := vm_m11) (ls := [some (.ref c), some (.int (iI k)), some (.int (iI w))]) rfl (Nat.le_of_ble_eq_true rfl) rfl (fun d hd => ?_)
  obtain ⟨hy, hr⟩ := id hc
  obtain ⟨k1, k2, k3, k4, k5, k6⟩ := id hk
  have hb := hk.r h0 h1 (w := 2 + w) (by omega) (by omega)
  refine Gs_aload_n p11_0 rfl rfl ?_
  refine Gs_iload_n p11_1 rfl rfl ?_
  refine Gs_callV1I p11_2 (by rfl) (by rfl) (by first | rfl | assumption | exact (show isTale _ from by assumption).1 | exact (show isCamp _ _ from by assumption).1 | exact (show isRow _ _ from by assumption).1) (Nat.le_of_ble_eq_true rfl) (by decide) (c_isIn hc hk h0 h1) (by omega) ?_
  refine Gs_ifb_eq (tgt := 24) p11_5 (by rfl) (fun h5 => ?_) (fun h5 => ?_)
  · refine Gs_iconst p11_24 ?_
    refine Gs_zret p11_25 rfl (by first | exact Or.inl rfl | exact Or.inr rfl | (split <;> first | exact Or.inl rfl | exact Or.inr rfl)) ⟨_, rfl, ?_⟩
    refine ⟨?_, rfl⟩
    (repeat' split) <;> omega
  · refine Gs_aload_n p11_8 rfl rfl ?_
    refine Gs_iload_n p11_9 rfl rfl ?_
    refine Gs_iconst p11_10 ?_
    refine Gs_iload_n p11_11 rfl rfl ?_
    refine Gs_iadd p11_12 ?_
    refine Gs_callV2I p11_13 (by rfl) (by rfl) (by first | rfl | assumption | exact (show isTale _ from by assumption).1 | exact (show isCamp _ _ from by assumption).1 | exact (show isRow _ _ from by assumption).1) (Nat.le_of_ble_eq_true rfl) (by decide) (c_Cget hc hk h0 h1 (by omega) (by omega)) (by omega) ?_
    refine Gs_iconst p11_16 ?_
    refine Gs_icmp_lt (tgt := 24) p11_17 (by rfl) (by first | assumption | exact ⟨by omega, by omega⟩ | (split <;> exact ⟨by omega, by omega⟩)) (by first | assumption | exact ⟨by omega, by omega⟩ | (split <;> exact ⟨by omega, by omega⟩)) (fun h17 => ?_) (fun h17 => ?_)
    · refine Gs_iconst p11_24 ?_
      refine Gs_zret p11_25 rfl (by first | exact Or.inl rfl | exact Or.inr rfl | (split <;> first | exact Or.inl rfl | exact Or.inr rfl)) ⟨_, rfl, ?_⟩
      refine ⟨?_, rfl⟩
      (repeat' split) <;> omega
    · refine Gs_iconst p11_20 ?_
      refine Gs_goto (tgt := 25) p11_21 (by rfl) ?_
      refine Gs_zret p11_25 rfl (by first | exact Or.inl rfl | exact Or.inr rfl | (split <;> first | exact Or.inl rfl | exact Or.inr rfl)) ⟨_, rfl, ?_⟩
      refine ⟨?_, rfl⟩
      (repeat' split) <;> omega

def hotS (s : St) (c : Nat) (k h : Int) : St := if 1 ≤ h then cs s c k 0 h else cs (cs (cs s c k 0 h) c k 1 (-4)) c k 6 (-4)
theorem CampOk.hot {s : St} {c : Nat} {n : Int} (hk : CampOk s c n) {k h : Int} (h0 : 0 ≤ k) (h1 : k < n) (h2 : 0 ≤ h) (h3 : h ≤ 20) : CampOk (hotS s c k h) c n := by
  have a := hk.cs h0 h1 (w := 0) (v := h) (by omega) (by omega) ⟨h2, h3⟩
  unfold hotS
  split
  · exact a
  · exact (a.cs h0 h1 (w := 1) (v := -4) (by omega) (by omega) (by decide)).cs h0 h1 (w := 6) (v := -4) (by omega) (by omega) (by decide)
set_option maxHeartbeats 1000000 in
set_option maxRecDepth 4000 in
theorem c_setHot {X : vX} {s : St} {c t : Nat} {n : Int} (hc : isCamp c t) (hk : CampOk s c n) {k : Int} (h0 : 0 ≤ k) (h1 : k < n) {h : Int} (g0 : 0 ≤ h) (g1 : h ≤ 20) : OkV X 2 13 [.ref c, .int (iI k), .int (iI h)] s (Is0 (hotS s c k h)) := by
  refine Ok.of (r := vm_m13) (ls := [some (.ref c), some (.int (iI k)), some (.int (iI h))]) rfl (Nat.le_of_ble_eq_true rfl) rfl (fun d hd => ?_)
  obtain ⟨hy, hr⟩ := id hc
  obtain ⟨k1, k2, k3, k4, k5, k6⟩ := id hk
  have a := hk.cs h0 h1 (w := 0) (v := h) (by omega) (by omega) ⟨g0, g1⟩
  have a2 := a.cs h0 h1 (w := 1) (v := -4) (by omega) (by omega) (by decide)
  refine Gs_aload_n p13_0 rfl rfl ?_
  refine Gs_iload_n p13_1 rfl rfl ?_
  refine Gs_iconst p13_2 ?_
  refine Gs_iload_n p13_3 rfl rfl ?_
  refine Gs_callV3W p13_4 (by rfl) (by rfl) (by first | rfl | assumption | exact (show isTale _ from by assumption).1 | exact (show isCamp _ _ from by assumption).1 | exact (show isRow _ _ from by assumption).1) (Nat.le_of_ble_eq_true rfl) (by decide) (c_Cset hc hk h0 h1 (by omega) (by omega)) (by omega) ?_
  refine Gs_iload_n p13_7 rfl rfl ?_
  refine Gs_iconst p13_8 ?_
  refine Gs_icmp_ge (tgt := 29) p13_9 (by rfl) (by first | assumption | exact ⟨by omega, by omega⟩ | (split <;> exact ⟨by omega, by omega⟩)) (by first | assumption | exact ⟨by omega, by omega⟩ | (split <;> exact ⟨by omega, by omega⟩)) (fun h9 => ?_) (fun h9 => ?_)
  · refine Gs_vret p13_29 rfl ⟨rfl, ?_⟩
    show _ = hotS _ _ _ _
    unfold hotS
    first | (rw [if_pos (by omega)]; done) | (rw [if_neg (by omega)]; done)
  · refine Gs_aload_n p13_12 rfl rfl ?_
    refine Gs_iload_n p13_13 rfl rfl ?_
    refine Gs_iconst p13_14 ?_
    refine Gs_bipush p13_15 (by decide) ?_
    refine Gs_callV3W p13_17 (by rfl) (by rfl) (by first | rfl | assumption | exact (show isTale _ from by assumption).1 | exact (show isCamp _ _ from by assumption).1 | exact (show isRow _ _ from by assumption).1) (Nat.le_of_ble_eq_true rfl) (by decide) (c_Cset hc a h0 h1 (by omega) (by omega)) (by omega) ?_
    refine Gs_aload_n p13_20 rfl rfl ?_
    refine Gs_iload_n p13_21 rfl rfl ?_
    refine Gs_bipush p13_22 (by decide) ?_
    refine Gs_bipush p13_24 (by decide) ?_
    refine Gs_callV3W p13_26 (by rfl) (by rfl) (by first | rfl | assumption | exact (show isTale _ from by assumption).1 | exact (show isCamp _ _ from by assumption).1 | exact (show isRow _ _ from by assumption).1) (Nat.le_of_ble_eq_true rfl) (by decide) (c_Cset hc a2 h0 h1 (by omega) (by omega)) (by omega) ?_
    refine Gs_vret p13_29 rfl ⟨rfl, ?_⟩
    show _ = hotS _ _ _ _
    unfold hotS
    first | (rw [if_pos (by omega)]; done) | (rw [if_neg (by omega)]; done)

theorem fedI_b (h w : Int) : 0 ≤ fedI h w ∧ fedI h w ≤ 20 := by unfold fedI mx mn; (repeat' split) <;> omega
theorem burntI_b {h last rain : Int} (h1 : h ≤ 20) (hr : 0 ≤ rain) : 0 ≤ burntI h last rain ∧ burntI h last rain ≤ 20 := by unfold burntI lossI mx; (repeat' split) <;> omega
def feed1 (s : St) (c : Nat) (k w : Int) : St := hotS (cs s c k (2 + w) (cg s c k (2 + w) + -1)) c k (fedI (cg (cs s c k (2 + w) (cg s c k (2 + w) + -1)) c k 0) w)
def feed2 (s : St) (c : Nat) (k w : Int) : St := cs (feed1 s c k w) c k 6 w
def feedF (s : St) (c t : Nat) (k w : Int) : Int := bhI (feed2 s c k w) t (cg (feed2 s c k w) c k 1) w
theorem bhI_line {s : St} {t : Nat} (h : TaleOk s t) (l w : Int) (hn : ¬ bhI s t l w = -4) (hall : ∀ j, 0 ≤ j → j < 4 * vF s t 4 → vA s (t + 2) j = 9 ∨ vA s (t + 2) j < vF s t 4) : 0 ≤ bhI s t l w ∧ bhI s t l w < vF s t 4 := by
  obtain ⟨h1, h2, h3, h4, h5, h6, h7⟩ := h
  unfold bhI at hn ⊢
  split
  · rename_i hc
    rw [if_pos hc] at hn
    split
    · rename_i h9; rw [if_pos h9] at hn; omega
    · rename_i h9
      have a := h6 (l * 4 + w) (by omega) (by omega)
      have b := hall (l * 4 + w) (by omega) (by omega)
      omega
  · rename_i hc; rw [if_neg hc] at hn; omega
theorem feed_line {s : St} {t : Nat} {f : Int} {l w : Int} (h : TaleOk s t) (he : f = bhI s t l w) (hn : ¬ f = -4) : loW 1 ≤ f ∧ f ≤ hiW 1 := by
  subst he
  have e : loW 1 = -4 ∧ hiW 1 = 8 := by decide
  have h' := h
  obtain ⟨h1, h2, h3, h4, h5, h6, h7⟩ := h
  unfold bhI at hn ⊢
  split
  · rename_i hc
    rw [if_pos hc] at hn
    split
    · rename_i h9; rw [if_pos h9] at hn; omega
    · rename_i h9
      have a := h6 (l * 4 + w) (by omega) (by omega)
      omega
  · rename_i hc; rw [if_neg hc] at hn; omega
def feed3 (s : St) (c t : Nat) (k w : Int) : St := cs (feed2 s c k w) c k 1 (feedF s c t k w)
/-- a log put on -/
def feedS (s : St) (c t : Nat) (k w : Int) : St := if 1 ≤ cg (feed1 s c k w) c k 0 then (if feedF s c t k w = -4 then feed2 s c k w else cs (feed3 s c t k w) c k 7 (cg (feed3 s c t k w) c k 7 + 1)) else feed1 s c k w
theorem TaleOk.sA {s : St} {t a : Nat} {z v : Int} (h : TaleOk s t) (h1 : a ≠ t + 2) (h2 : a ≠ t + 4) : TaleOk (sA s a z v) t := by
  obtain ⟨a1, a2, a3, a4, a5, a6, a7⟩ := h
  refine ⟨a1, a2, a3, a4, a5, fun j b0 b1 => ?_, fun j b0 b1 => ?_⟩
  · rw [vA_sA, if_neg (fun z => h1 z.1.symm)]; exact a6 j b0 b1
  · rw [vA_sA, if_neg (fun z => h2 z.1.symm)]; exact a7 j b0 b1
theorem TaleOk.hot {s : St} {t c : Nat} {k h : Int} (hk : TaleOk s t) (h1 : c + 2 ≠ t + 2) (h2 : c + 2 ≠ t + 4) : TaleOk (hotS s c k h) t := by
  unfold hotS cs
  split
  · exact hk.sA h1 h2
  · exact ((hk.sA h1 h2).sA h1 h2).sA h1 h2
set_option maxHeartbeats 4000000 in
set_option maxRecDepth 4000 in
theorem c_feed {X : vX} {s : St} {c t : Nat} {n : Int} (hc : isCamp c t) (hk : CampOk s c n) (ha : c + 2 ≠ t + 2) (hb : c + 2 ≠ t + 4) (ht : isTale t) (hT : TaleOk s t) {k : Int} (h0 : 0 ≤ k) (h1 : k < n) {w : Int} (h2 : 0 ≤ w) (h3 : w < 4) (hl : 1 ≤ cg s c k (2 + w)) (hto : cg s c k 7 < 100000) : OkV X 3 12 [.ref c, .int (iI k), .int (iI w)] s (Is0 (feedS s c t k w)) := by
  refine Ok.of (r := vm_m12) (ls := [some (.ref c), some (.int (iI k)), some (.int (iI w)), none]) rfl (Nat.le_of_ble_eq_true rfl) rfl (fun d hd => ?_)
  obtain ⟨hy, hr⟩ := id hc
  obtain ⟨k1, k2, k3, k4, k5, k6⟩ := id hk
  have b0 := hk.b h0 h1 (w := 0) (by omega) (by omega)
  have bl := hk.b h0 h1 (w := 2 + w) (by omega) (by omega)
  have q1 : CampOk (cs s c k (2 + w) (cg s c k (2 + w) + -1)) c n := hk.cs h0 h1 (by omega) (by omega) ⟨by unfold loW; split <;> (try split) <;> omega, by omega⟩
  have t1 : TaleOk (cs s c k (2 + w) (cg s c k (2 + w) + -1)) t := hT.sA ha hb
  have b1 := q1.b h0 h1 (w := 0) (by omega) (by omega)
  have hf := fedI_b (cg (cs s c k (2 + w) (cg s c k (2 + w) + -1)) c k 0) w
  have q2 : CampOk (feed1 s c k w) c n := q1.hot h0 h1 hf.1 hf.2
  have t2 : TaleOk (feed1 s c k w) t := t1.hot ha hb
  have q3 : CampOk (feed2 s c k w) c n := q2.cs h0 h1 (by omega) (by omega) ⟨by show -4 ≤ w; omega, by show w ≤ 3; omega⟩
  have t3 : TaleOk (feed2 s c k w) t := t2.sA ha hb
  have r3 := q3.r h0 h1 (w := 1) (by omega) (by omega)
  have bf : -4 ≤ feedF s c t k w ∧ feedF s c t k w ≤ 9 := bhI_b t3 _ w
  have e0 : loW 0 = 0 ∧ hiW 0 = 20 := by decide
  refine Gs_aload_n p12_0 rfl rfl ?_
  refine Gs_iload_n p12_1 rfl rfl ?_
  refine Gs_iconst p12_2 ?_
  refine Gs_iload_n p12_3 rfl rfl ?_
  refine Gs_iadd p12_4 ?_
  refine Gs_iconst p12_5 ?_
  refine Gs_callV3W p12_6 (by rfl) (by rfl) (by first | rfl | assumption | exact (show isTale _ from by assumption).1 | exact (show isCamp _ _ from by assumption).1 | exact (show isRow _ _ from by assumption).1) (Nat.le_of_ble_eq_true rfl) (by decide) (c_Cchange hc hk h0 h1 (by omega) (by omega)) (by omega) ?_
  refine Gs_aload_n p12_9 rfl rfl ?_
  refine Gs_iload_n p12_10 rfl rfl ?_
  refine Gs_aload_n p12_11 rfl rfl ?_
  refine Gs_iload_n p12_12 rfl rfl ?_
  refine Gs_iconst p12_13 ?_
  refine Gs_callV2I p12_14 (by rfl) (by rfl) (by first | rfl | assumption | exact (show isTale _ from by assumption).1 | exact (show isCamp _ _ from by assumption).1 | exact (show isRow _ _ from by assumption).1) (Nat.le_of_ble_eq_true rfl) (by decide) (c_Cget hc q1 h0 h1 (by omega) (by omega)) (by omega) ?_
  refine Gs_iload_n p12_17 rfl rfl ?_
  refine Gs_callS2I p12_18 (by rfl) (Nat.le_of_ble_eq_true rfl) (by decide) (c_fed (by omega) (by omega) ⟨by omega, by omega⟩) (by omega) ?_
  refine Gs_callV2W p12_21 (by rfl) (by rfl) (by first | rfl | assumption | exact (show isTale _ from by assumption).1 | exact (show isCamp _ _ from by assumption).1 | exact (show isRow _ _ from by assumption).1) (Nat.le_of_ble_eq_true rfl) (by decide) (c_setHot hc q1 h0 h1 hf.1 hf.2) (by omega) ?_
  show Gs X d 12 24 _ _ (feed1 s c k w) _
  refine Gs_aload_n p12_24 rfl rfl ?_
  refine Gs_iload_n p12_25 rfl rfl ?_
  refine Gs_callV1I p12_26 (by rfl) (by rfl) (by first | rfl | assumption | exact (show isTale _ from by assumption).1 | exact (show isCamp _ _ from by assumption).1 | exact (show isRow _ _ from by assumption).1) (Nat.le_of_ble_eq_true rfl) (by decide) (c_isIn hc q2 h0 h1) (by omega) ?_
  refine Gs_ifb_ne (tgt := 33) p12_29 (by rfl) (fun h29 => ?_) (fun h29 => ?_)
  · refine Gs_aload_n p12_33 rfl rfl ?_
    refine Gs_iload_n p12_34 rfl rfl ?_
    refine Gs_bipush p12_35 (by decide) ?_
    refine Gs_iload_n p12_37 rfl rfl ?_
    refine Gs_callV3W p12_38 (by rfl) (by rfl) (by first | rfl | assumption | exact (show isTale _ from by assumption).1 | exact (show isCamp _ _ from by assumption).1 | exact (show isRow _ _ from by assumption).1) (Nat.le_of_ble_eq_true rfl) (by decide) (c_Cset hc q2 h0 h1 (by omega) (by omega)) (by omega) ?_
    show Gs X d 12 41 _ _ (feed2 s c k w) _
    refine Gs_aload_n p12_41 rfl rfl ?_
    refine Gs_getR p12_42 (by first | rfl | assumption | exact (show isTale _ from by assumption).1 | exact (show isCamp _ _ from by assumption).1 | exact (show isRow _ _ from by assumption).1) (by rfl) ?_
    refine Gs_aload_n p12_45 rfl rfl ?_
    refine Gs_iload_n p12_46 rfl rfl ?_
    refine Gs_iconst p12_47 ?_
    refine Gs_callV2I p12_48 (by rfl) (by rfl) (by first | rfl | assumption | exact (show isTale _ from by assumption).1 | exact (show isCamp _ _ from by assumption).1 | exact (show isRow _ _ from by assumption).1) (Nat.le_of_ble_eq_true rfl) (by decide) (c_Cget hc q3 h0 h1 (by omega) (by omega)) (by omega) ?_
    refine Gs_iload_n p12_51 rfl rfl ?_
    refine Gs_callV2I p12_52 (by rfl) (by rfl) (by first | rfl | assumption | exact (show isTale _ from by assumption).1 | exact (show isCamp _ _ from by assumption).1 | exact (show isRow _ _ from by assumption).1) (Nat.le_of_ble_eq_true rfl) (by decide) (c_behind ht t3 ⟨by omega, by omega⟩ ⟨by omega, by omega⟩) (by omega) ?_
    show Gs X d 12 55 _ [.int (iI (feedF s c t k w))] (feed2 s c k w) _
    refine Gs_ist3 p12_55 (by first | rfl | assumption) ?_
    refine Gs_iload_n p12_56 rfl rfl ?_
    refine Gs_bipush p12_57 (by decide) ?_
    refine Gs_icmp_eq (tgt := 77) p12_59 (by rfl) (by first | assumption | exact ⟨by omega, by omega⟩ | (split <;> exact ⟨by omega, by omega⟩)) (by first | assumption | exact ⟨by omega, by omega⟩ | (split <;> exact ⟨by omega, by omega⟩)) (fun h59 => ?_) (fun h59 => ?_)
    · refine Gs_vret p12_77 rfl ⟨rfl, ?_⟩
      show _ = feedS s c t k w
      unfold feedS
      first | (rw [if_pos h29, if_pos h59]; done) | (rw [if_pos h29, if_neg h59]; done) | (rw [if_pos h29, if_neg h59]; rfl)
    · have q4 : CampOk (feed3 s c t k w) c n := q3.cs h0 h1 (by omega) (by omega) (feed_line t3 rfl h59)
      refine Gs_aload_n p12_62 rfl rfl ?_
      refine Gs_iload_n p12_63 rfl rfl ?_
      refine Gs_iconst p12_64 ?_
      refine Gs_iload_n p12_65 rfl rfl ?_
      refine Gs_callV3W p12_66 (by rfl) (by rfl) (by first | rfl | assumption | exact (show isTale _ from by assumption).1 | exact (show isCamp _ _ from by assumption).1 | exact (show isRow _ _ from by assumption).1) (Nat.le_of_ble_eq_true rfl) (by decide) (c_Cset hc q3 h0 h1 (by omega) (by omega)) (by omega) ?_
      refine Gs_aload_n p12_69 rfl rfl ?_
      refine Gs_iload_n p12_70 rfl rfl ?_
      refine Gs_bipush p12_71 (by decide) ?_
      refine Gs_iconst p12_73 ?_
      refine Gs_callV3W p12_74 (by rfl) (by rfl) (by first | rfl | assumption | exact (show isTale _ from by assumption).1 | exact (show isCamp _ _ from by assumption).1 | exact (show isRow _ _ from by assumption).1) (Nat.le_of_ble_eq_true rfl) (by decide) (c_Cchange hc q4 h0 h1 (by omega) (by omega)) (by omega) ?_
      refine Gs_vret p12_77 rfl ⟨rfl, ?_⟩
      show _ = feedS s c t k w
      unfold feedS
      first | (rw [if_pos h29, if_pos h59]; done) | (rw [if_pos h29, if_neg h59]; done) | (rw [if_pos h29, if_neg h59]; rfl)
  · refine Gs_vret p12_32 rfl ⟨rfl, ?_⟩
    show _ = feedS s c t k w
    unfold feedS
    rw [if_neg h29]
