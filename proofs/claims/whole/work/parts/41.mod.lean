/-! the reference's small methods -/
theorem ne0_of {p : Prop} [Decidable p] (h : ¬ (if p then (1 : Int) else 0) = 0) : p := by
  by_cases hp : p
  · exact hp
  · rw [if_neg hp] at h; exact absurd rfl h
/-- the reference's camp is one -/
def MT (s : St) : Prop := 1 ≤ vA s 96 0 ∧ vA s 96 0 ≤ 9 ∧ 0 ≤ vA s 96 1 ∧ vA s 96 1 ≤ 8 ∧ 1 ≤ vA s 96 2 ∧ vA s 96 2 ≤ 4 ∧ (∀ j, 0 ≤ j → j < 4 * vA s 96 0 → 0 ≤ vA s 96 (3 + j) ∧ vA s 96 (3 + j) ≤ 9) ∧ (∀ j, 0 ≤ j → j < vA s 96 1 → 0 ≤ vA s 96 (39 + j) ∧ vA s 96 (39 + j) ≤ 3)
theorem MT.cong {s s' : St} (h : MT s) (e : ∀ z, vA s' 96 z = vA s 96 z) : MT s' := by unfold MT at h ⊢; simp only [e]; exact h
def bhM (s : St) (l w : Int) : Int := if vA s 96 (3 + 4 * l + w) = 9 then -4 else vA s 96 (3 + 4 * l + w)
def cfM (s : St) (l w : Int) : Int := if bhM s l w = -4 then l else bhM s l w
def rnM (s : St) (h : Int) : Int := if vA s 96 1 = 0 then 0 else vA s 96 (39 + h % vA s 96 1)
theorem bhM_b {s : St} (h : MT s) {l w : Int} (h0 : 0 ≤ l) (h1 : l < vA s 96 0) (h2 : 0 ≤ w) (h3 : w < 4) : -4 ≤ bhM s l w ∧ bhM s l w ≤ 9 := by
  obtain ⟨a1, a2, a3, a4, a5, a6, a7, a8⟩ := h
  have := a7 (4 * l + w) (by omega) (by omega)
  rw [show 3 + (4 * l + w) = 3 + 4 * l + w by omega] at this
  unfold bhM
  split <;> omega
theorem rnM_b {s : St} (h : MT s) (x : Int) : 0 ≤ rnM s x ∧ rnM s x ≤ 3 := by
  obtain ⟨a1, a2, a3, a4, a5, a6, a7, a8⟩ := h
  unfold rnM
  split
  · omega
  · exact a8 _ (Int.emod_nonneg _ (by omega)) (Int.emod_lt_of_pos _ (by omega))
theorem RelTale.mt {s : St} (h : RelTale s) (b : 1 ≤ vA s 96 2 ∧ vA s 96 2 ≤ 4) : MT s := by
  obtain ⟨⟨a1, a2, a3, a4, a5, a6, a7⟩, b1, b2, b3, b4, b5, b6, b7⟩ := h
  have a4' : 0 ≤ vF s 8 1 := a4
  have a5' : vF s 8 1 ≤ 8 := a5
  refine ⟨by omega, by omega, by omega, by omega, b.1, b.2, fun j h0 h1 => ?_, fun j h0 h1 => ?_⟩
  · rw [(b4 j h0 (by omega)).1]; exact a6 j h0 (by omega)
  · rw [b5 j h0 (by omega)]; exact a7 j h0 (by show j < vF s 8 1; omega)
theorem RelTale.bh {s : St} (h : RelTale s) {l w : Int} (h0 : 0 ≤ l) (h1 : l < vF s 5 4) (h2 : 0 ≤ w) (h3 : w < 4) : bhM s l w = bhI s 5 l w := by
  obtain ⟨_, b1, b2, b3, b4, b5, b6, b7⟩ := h
  have := (b4 (l * 4 + w) (by omega) (by omega)).1
  rw [show 3 + (l * 4 + w) = 3 + 4 * l + w by omega] at this
  show (if _ then _ else _) = (if _ then _ else _)
  rw [this, if_pos (show (0 ≤ l ∧ l < vF s 5 4) ∧ (0 ≤ w ∧ w < 4) from ⟨⟨h0, h1⟩, h2, h3⟩)]
theorem RelTale.cf {s : St} (h : RelTale s) {l w : Int} (h0 : 0 ≤ l) (h1 : l < vF s 5 4) (h2 : 0 ≤ w) (h3 : w < 4) : cfM s l w = cfI s 5 l w := by
  unfold cfM cfI; rw [h.bh h0 h1 h2 h3]
theorem RelTale.rn {s : St} (h : RelTale s) (x : Int) : rnM s x = rnI s 5 x := by
  obtain ⟨⟨a1, a2, a3, a4, a5, a6, a7⟩, b1, b2, b3, b4, b5, b6, b7⟩ := h
  have a4' : 0 ≤ vF s 8 1 := a4
  show (if vA s 96 1 = 0 then 0 else vA s 96 (39 + x % vA s 96 1)) = (if 0 < vF s 8 1 then vA s 9 (x % vF s 8 1) else 0)
  rw [b3]
  by_cases e : vF s 8 1 = 0
  · rw [if_pos e, if_neg (show ¬ 0 < vF s 8 1 by omega)]
  · rw [if_neg e, if_pos (show 0 < vF s 8 1 by omega), b5 _ (Int.emod_nonneg _ e) (Int.emod_lt_of_pos _ (by omega))]
theorem RelTale.bh_line {s : St} (h : RelTale s) {l w : Int} (hn : ¬ bhI s 5 l w = -4) : 0 ≤ bhI s 5 l w ∧ bhI s 5 l w < vF s 5 4 := bhI_line h.1 l w hn (fun j h0 h1 => (h.2.2.2.2.1 j h0 h1).2)
theorem RelTale.cf_line {s : St} (h : RelTale s) {l w : Int} (h0 : 0 ≤ l) (h1 : l < vF s 5 4) : 0 ≤ cfI s 5 l w ∧ cfI s 5 l w < vF s 5 4 := by
  unfold cfI
  split
  · omega
  · exact h.bh_line (by assumption)
set_option maxHeartbeats 1000000 in
set_option maxRecDepth 4000 in
theorem c_in {X : vX} {s : St} {v a b : Int} (hv : rL v) (ha : rL a) (hb : rL b) : OkI X 0 128 [.long (iL v), .long (iL a), .long (iL b)] s (Is1 (if a ≤ v ∧ v ≤ b then 1 else 0) s) := by
  refine Ok.of (r := vm_m128) (ls := [some (.long (iL v)), none, some (.long (iL a)), none, some (.long (iL b)), none]) rfl (Nat.le_of_ble_eq_true rfl) rfl (fun d hd => ?_)
  refine Gs_lload_n p128_0 rfl rfl ?_
  refine Gs_lload_n p128_1 rfl rfl ?_
  refine Gs_lcmp p128_2 hv ha ?_
  refine Gs_if_lt (tgt := 17) p128_3 (by rfl) (by (repeat' split) <;> exact ⟨by omega, by omega⟩) (fun h3 => ?_) (fun h3 => ?_)
  · refine Gs_iconst p128_17 ?_
    refine Gs_zret p128_18 rfl (by first | exact Or.inl rfl | exact Or.inr rfl | (split <;> first | exact Or.inl rfl | exact Or.inr rfl)) ⟨_, rfl, ?_⟩
    refine ⟨?_, rfl⟩
    (repeat' split at h3)
    all_goals first | (split <;> omega) | skip
    all_goals ((repeat' split at h10) <;> split <;> omega)
  · refine Gs_lload_n p128_6 rfl rfl ?_
    refine Gs_lload p128_7 rfl rfl ?_
    refine Gs_lcmp p128_9 hv hb ?_
    refine Gs_if_gt (tgt := 17) p128_10 (by rfl) (by (repeat' split) <;> exact ⟨by omega, by omega⟩) (fun h10 => ?_) (fun h10 => ?_)
    · refine Gs_iconst p128_17 ?_
      refine Gs_zret p128_18 rfl (by first | exact Or.inl rfl | exact Or.inr rfl | (split <;> first | exact Or.inl rfl | exact Or.inr rfl)) ⟨_, rfl, ?_⟩
      refine ⟨?_, rfl⟩
      (repeat' split at h3)
      all_goals first | (split <;> omega) | skip
      all_goals ((repeat' split at h10) <;> split <;> omega)
    · refine Gs_iconst p128_13 ?_
      refine Gs_goto (tgt := 18) p128_14 (by rfl) ?_
      refine Gs_zret p128_18 rfl (by first | exact Or.inl rfl | exact Or.inr rfl | (split <;> first | exact Or.inl rfl | exact Or.inr rfl)) ⟨_, rfl, ?_⟩
      refine ⟨?_, rfl⟩
      (repeat' split at h3)
      all_goals first | (split <;> omega) | skip
      all_goals ((repeat' split at h10) <;> split <;> omega)

theorem rg_L {z : Int} (h : rg z) : rL z := ⟨by have := h.1; omega, by have := h.2; omega⟩
set_option maxHeartbeats 1000000 in
set_option maxRecDepth 4000 in
theorem c_misLine {X : vX} {s : St} (hT : MT s) {z : Int} (hz : rg z) : OkI X 1 148 [.ref 95, .int (iI z)] s (Is1 (if 0 ≤ z ∧ z ≤ vA s 96 0 - 1 then 1 else 0) s) := by
  refine Ok.of (r := vm_m148) (ls := [some (.ref 95), some (.int (iI z))]) rfl (Nat.le_of_ble_eq_true rfl) rfl (fun d hd => ?_)
  obtain ⟨a1, a2, a3, a4, a5, a6, a7, a8⟩ := id hT
  refine Gs_iload_n p148_0 rfl rfl ?_
  refine Gs_i2l p148_1 (by first | assumption | exact ⟨by omega, by omega⟩ | (split <;> exact ⟨by omega, by omega⟩)) ?_
  refine Gs_lconst (z := 0) p148_2 (by decide) ?_
  refine Gs_aload_n p148_3 rfl rfl ?_
  refine Gs_getR p148_4 (by first | rfl | assumption | exact (show isTale _ from by assumption).1 | exact (show isCamp _ _ from by assumption).1 | exact (show isRow _ _ from by assumption).1) (by rfl) ?_
  refine Gs_iconst p148_7 ?_
  refine Gs_iald p148_8 (by first | rfl | assumption | exact (show isTale _ from by assumption).1 | exact (show isCamp _ _ from by assumption).1 | exact (show isRow _ _ from by assumption).1) (by omega) (by omega) (by omega) ?_
  refine Gs_iconst p148_9 ?_
  refine Gs_isub p148_10 ?_
  refine Gs_i2l p148_11 (by first | assumption | exact ⟨by omega, by omega⟩ | (split <;> exact ⟨by omega, by omega⟩)) ?_
  refine Gs_callS3I p148_12 (by rfl) (Nat.le_of_ble_eq_true rfl) (by decide) (c_in (rg_L hz) ⟨by omega, by omega⟩ ⟨by omega, by omega⟩) (by omega) ?_
  refine Gs_zret p148_15 rfl (by first | exact Or.inl rfl | exact Or.inr rfl | (split <;> first | exact Or.inl rfl | exact Or.inr rfl)) ⟨_, rfl, ?_⟩
  exact ⟨rfl, rfl⟩

set_option maxHeartbeats 1000000 in
set_option maxRecDepth 4000 in
theorem c_misCompany {X : vX} {s : St} (hT : MT s) {z : Int} (hz : rg z) : OkI X 1 150 [.ref 95, .int (iI z)] s (Is1 (if 0 ≤ z ∧ z ≤ vA s 96 2 - 1 then 1 else 0) s) := by
  refine Ok.of (r := vm_m150) (ls := [some (.ref 95), some (.int (iI z))]) rfl (Nat.le_of_ble_eq_true rfl) rfl (fun d hd => ?_)
  obtain ⟨a1, a2, a3, a4, a5, a6, a7, a8⟩ := id hT
  refine Gs_iload_n p150_0 rfl rfl ?_
  refine Gs_i2l p150_1 (by first | assumption | exact ⟨by omega, by omega⟩ | (split <;> exact ⟨by omega, by omega⟩)) ?_
  refine Gs_lconst (z := 0) p150_2 (by decide) ?_
  refine Gs_aload_n p150_3 rfl rfl ?_
  refine Gs_getR p150_4 (by first | rfl | assumption | exact (show isTale _ from by assumption).1 | exact (show isCamp _ _ from by assumption).1 | exact (show isRow _ _ from by assumption).1) (by rfl) ?_
  refine Gs_iconst p150_7 ?_
  refine Gs_iald p150_8 (by first | rfl | assumption | exact (show isTale _ from by assumption).1 | exact (show isCamp _ _ from by assumption).1 | exact (show isRow _ _ from by assumption).1) (by omega) (by omega) (by omega) ?_
  refine Gs_iconst p150_9 ?_
  refine Gs_isub p150_10 ?_
  refine Gs_i2l p150_11 (by first | assumption | exact ⟨by omega, by omega⟩ | (split <;> exact ⟨by omega, by omega⟩)) ?_
  refine Gs_callS3I p150_12 (by rfl) (Nat.le_of_ble_eq_true rfl) (by decide) (c_in (rg_L hz) ⟨by omega, by omega⟩ ⟨by omega, by omega⟩) (by omega) ?_
  refine Gs_zret p150_15 rfl (by first | exact Or.inl rfl | exact Or.inr rfl | (split <;> first | exact Or.inl rfl | exact Or.inr rfl)) ⟨_, rfl, ?_⟩
  exact ⟨rfl, rfl⟩

set_option maxHeartbeats 1000000 in
set_option maxRecDepth 4000 in
theorem c_misWood {X : vX} {s : St} {z : Int} (hz : rg z) : OkI X 1 149 [.int (iI z)] s (Is1 (if 0 ≤ z ∧ z ≤ 3 then 1 else 0) s) := by
  refine Ok.of (r := vm_m149) (ls := [some (.int (iI z))]) rfl (Nat.le_of_ble_eq_true rfl) rfl (fun d hd => ?_)
  refine Gs_iload_n p149_0 rfl rfl ?_
  refine Gs_i2l p149_1 (by first | assumption | exact ⟨by omega, by omega⟩ | (split <;> exact ⟨by omega, by omega⟩)) ?_
  refine Gs_lconst (z := 0) p149_2 (by decide) ?_
  refine Gs_ldc2 (z := (3)) p149_3 (by decide) ?_
  refine Gs_callS3I p149_6 (by rfl) (Nat.le_of_ble_eq_true rfl) (by decide) (c_in (rg_L hz) ⟨by omega, by omega⟩ ⟨by omega, by omega⟩) (by omega) ?_
  refine Gs_zret p149_9 rfl (by first | exact Or.inl rfl | exact Or.inr rfl | (split <;> first | exact Or.inl rfl | exact Or.inr rfl)) ⟨_, rfl, ?_⟩
  exact ⟨rfl, rfl⟩

set_option maxHeartbeats 1000000 in
set_option maxRecDepth 4000 in
theorem c_mbehind {X : vX} {s : St} (hT : MT s) {l w : Int} (h0 : 0 ≤ l) (h1 : l < vA s 96 0) (h2 : 0 ≤ w) (h3 : w < 4) : OkI X 0 151 [.ref 95, .int (iI l), .int (iI w)] s (Is1 (bhM s l w) s) := by
  refine Ok.of (r := vm_m151) (ls := [some (.ref 95), some (.int (iI l)), some (.int (iI w)), none]) rfl (Nat.le_of_ble_eq_true rfl) rfl (fun d hd => ?_)
  obtain ⟨a1, a2, a3, a4, a5, a6, a7, a8⟩ := id hT
  have b1 := a7 (4 * l + w) (by omega) (by omega)
  rw [show 3 + (4 * l + w) = 3 + 4 * l + w by omega] at b1
  refine Gs_aload_n p151_0 rfl rfl ?_
  refine Gs_getR p151_1 (by first | rfl | assumption | exact (show isTale _ from by assumption).1 | exact (show isCamp _ _ from by assumption).1 | exact (show isRow _ _ from by assumption).1) (by rfl) ?_
  refine Gs_iconst p151_4 ?_
  refine Gs_iconst p151_5 ?_
  refine Gs_iload_n p151_6 rfl rfl ?_
  refine Gs_imul p151_7 ?_
  refine Gs_iadd p151_8 ?_
  refine Gs_iload_n p151_9 rfl rfl ?_
  refine Gs_iadd p151_10 ?_
  refine Gs_iald p151_11 (by first | rfl | assumption | exact (show isTale _ from by assumption).1 | exact (show isCamp _ _ from by assumption).1 | exact (show isRow _ _ from by assumption).1) (by omega) (by omega) (by omega) ?_
  refine Gs_ist3 p151_12 (by first | rfl | assumption) ?_
  refine Gs_iload_n p151_13 rfl rfl ?_
  refine Gs_bipush p151_14 (by decide) ?_
  refine Gs_icmp_ne (tgt := 24) p151_16 (by rfl) (by first | assumption | exact ⟨by omega, by omega⟩ | (split <;> exact ⟨by omega, by omega⟩)) (by first | assumption | exact ⟨by omega, by omega⟩ | (split <;> exact ⟨by omega, by omega⟩)) (fun h16 => ?_) (fun h16 => ?_)
  · refine Gs_iload_n p151_24 rfl rfl ?_
    refine Gs_iret p151_25 rfl ⟨_, rfl, ?_⟩
    refine ⟨?_, rfl⟩
    unfold bhM
    split <;> first | rfl | (exfalso; omega)
  · refine Gs_bipush p151_19 (by decide) ?_
    refine Gs_goto (tgt := 25) p151_21 (by rfl) ?_
    refine Gs_iret p151_25 rfl ⟨_, rfl, ?_⟩
    refine ⟨?_, rfl⟩
    unfold bhM
    split <;> first | rfl | (exfalso; omega)

set_option maxHeartbeats 1000000 in
set_option maxRecDepth 4000 in
theorem c_mgoes {X : vX} {s : St} (hT : MT s) {l w : Int} (h0 : 0 ≤ l) (h1 : l < vA s 96 0) (h2 : 0 ≤ w) (h3 : w < 4) : OkI X 1 152 [.ref 95, .int (iI l), .int (iI w)] s (Is1 (cfM s l w) s) := by
  refine Ok.of (r := vm_m152) (ls := [some (.ref 95), some (.int (iI l)), some (.int (iI w)), none]) rfl (Nat.le_of_ble_eq_true rfl) rfl (fun d hd => ?_)
  obtain ⟨a1, a2, a3, a4, a5, a6, a7, a8⟩ := id hT
  have b1 := bhM_b hT h0 h1 h2 h3
  refine Gs_aload_n p152_0 rfl rfl ?_
  refine Gs_iload_n p152_1 rfl rfl ?_
  refine Gs_iload_n p152_2 rfl rfl ?_
  refine Gs_callV2I p152_3 (by rfl) (by rfl) (by first | rfl | assumption | exact (show isTale _ from by assumption).1 | exact (show isCamp _ _ from by assumption).1 | exact (show isRow _ _ from by assumption).1) (Nat.le_of_ble_eq_true rfl) (by decide) (c_mbehind hT h0 h1 h2 h3) (by omega) ?_
  refine Gs_ist3 p152_6 (by first | rfl | assumption) ?_
  refine Gs_iload_n p152_7 rfl rfl ?_
  refine Gs_bipush p152_8 (by decide) ?_
  refine Gs_icmp_ne (tgt := 17) p152_10 (by rfl) (by first | assumption | exact ⟨by omega, by omega⟩ | (split <;> exact ⟨by omega, by omega⟩)) (by first | assumption | exact ⟨by omega, by omega⟩ | (split <;> exact ⟨by omega, by omega⟩)) (fun h10 => ?_) (fun h10 => ?_)
  · refine Gs_iload_n p152_17 rfl rfl ?_
    refine Gs_iret p152_18 rfl ⟨_, rfl, ?_⟩
    refine ⟨?_, rfl⟩
    unfold cfM
    split <;> first | rfl | (exfalso; omega)
  · refine Gs_iload_n p152_13 rfl rfl ?_
    refine Gs_goto (tgt := 18) p152_14 (by rfl) ?_
    refine Gs_iret p152_18 rfl ⟨_, rfl, ?_⟩
    refine ⟨?_, rfl⟩
    unfold cfM
    split <;> first | rfl | (exfalso; omega)

set_option maxHeartbeats 1000000 in
set_option maxRecDepth 4000 in
theorem c_mrainAt {X : vX} {s : St} (hT : MT s) {h : Int} (h0 : 0 ≤ h) (h1 : h < 2147483648) : OkI X 0 153 [.ref 95, .int (iI h)] s (Is1 (rnM s h) s) := by
  refine Ok.of (r := vm_m153) (ls := [some (.ref 95), some (.int (iI h))]) rfl (Nat.le_of_ble_eq_true rfl) rfl (fun d hd => ?_)
  obtain ⟨a1, a2, a3, a4, a5, a6, a7, a8⟩ := id hT
  refine Gs_aload_n p153_0 rfl rfl ?_
  refine Gs_getR p153_1 (by first | rfl | assumption | exact (show isTale _ from by assumption).1 | exact (show isCamp _ _ from by assumption).1 | exact (show isRow _ _ from by assumption).1) (by rfl) ?_
  refine Gs_iconst p153_4 ?_
  refine Gs_iald p153_5 (by first | rfl | assumption | exact (show isTale _ from by assumption).1 | exact (show isCamp _ _ from by assumption).1 | exact (show isRow _ _ from by assumption).1) (by omega) (by omega) (by omega) ?_
  refine Gs_if_ne (tgt := 13) p153_6 (by rfl) (by first | assumption | exact ⟨by omega, by omega⟩ | (split <;> exact ⟨by omega, by omega⟩)) (fun h6 => ?_) (fun h6 => ?_)
  · refine Gs_aload_n p153_13 rfl rfl ?_
    refine Gs_getR p153_14 (by first | rfl | assumption | exact (show isTale _ from by assumption).1 | exact (show isCamp _ _ from by assumption).1 | exact (show isRow _ _ from by assumption).1) (by rfl) ?_
    refine Gs_bipush p153_17 (by decide) ?_
    refine Gs_iload_n p153_19 rfl rfl ?_
    refine Gs_aload_n p153_20 rfl rfl ?_
    refine Gs_getR p153_21 (by first | rfl | assumption | exact (show isTale _ from by assumption).1 | exact (show isCamp _ _ from by assumption).1 | exact (show isRow _ _ from by assumption).1) (by rfl) ?_
    refine Gs_iconst p153_24 ?_
    refine Gs_iald p153_25 (by first | rfl | assumption | exact (show isTale _ from by assumption).1 | exact (show isCamp _ _ from by assumption).1 | exact (show isRow _ _ from by assumption).1) (by omega) (by omega) (by omega) ?_
    refine Gs_irem p153_26 (by omega) (by omega) (by omega) (by omega) ?_
    have b1 := Int.emod_nonneg h (show vA s 96 1 ≠ 0 by omega)
    have b2 := Int.emod_lt_of_pos h (show 0 < vA s 96 1 by omega)
    refine Gs_iadd p153_27 ?_
    refine Gs_iald p153_28 (by first | rfl | assumption | exact (show isTale _ from by assumption).1 | exact (show isCamp _ _ from by assumption).1 | exact (show isRow _ _ from by assumption).1) (by omega) (by omega) (by omega) ?_
    refine Gs_iret p153_29 rfl ⟨_, rfl, ?_⟩
    refine ⟨?_, rfl⟩
    unfold rnM
    split <;> first | rfl | (exfalso; omega)
  · refine Gs_iconst p153_9 ?_
    refine Gs_goto (tgt := 29) p153_10 (by rfl) ?_
    refine Gs_iret p153_29 rfl ⟨_, rfl, ?_⟩
    refine ⟨?_, rfl⟩
    unfold rnM
    split <;> first | rfl | (exfalso; omega)

set_option maxHeartbeats 4000000 in
set_option maxRecDepth 4000 in
theorem c_hotter {X : vX} {s : St} {h w : Int} (g0 : 0 ≤ h) (g1 : h ≤ 20) (h2 : 0 ≤ w) (h3 : w < 4) : OkI X 0 157 [.int (iI h), .int (iI w)] s (Is1 (fedI h w) s) := by
  refine Ok.of (r := vm_m157) (ls := [some (.int (iI h)), some (.int (iI w)), none]) rfl (Nat.le_of_ble_eq_true rfl) rfl (fun d hd => ?_)
  refine Gs_iload_n p157_0 rfl rfl ?_
  refine Gs_iload_n p157_1 rfl rfl ?_
  refine Gs_if_ne (tgt := 9) p157_2 (by rfl) (by first | assumption | exact ⟨by omega, by omega⟩ | (split <;> exact ⟨by omega, by omega⟩)) (fun h2 => ?_) (fun h2 => ?_)
  · refine Gs_iload_n p157_9 rfl rfl ?_
    refine Gs_iconst p157_10 ?_
    refine Gs_icmp_ne (tgt := 19) p157_11 (by rfl) (by first | assumption | exact ⟨by omega, by omega⟩ | (split <;> exact ⟨by omega, by omega⟩)) (by first | assumption | exact ⟨by omega, by omega⟩ | (split <;> exact ⟨by omega, by omega⟩)) (fun h11 => ?_) (fun h11 => ?_)
    · refine Gs_iload_n p157_19 rfl rfl ?_
      refine Gs_iconst p157_20 ?_
      refine Gs_icmp_ne (tgt := 29) p157_21 (by rfl) (by first | assumption | exact ⟨by omega, by omega⟩ | (split <;> exact ⟨by omega, by omega⟩)) (by first | assumption | exact ⟨by omega, by omega⟩ | (split <;> exact ⟨by omega, by omega⟩)) (fun h21 => ?_) (fun h21 => ?_)
      · refine Gs_iconst p157_29 ?_
        refine Gs_iadd p157_30 ?_
        refine Gs_ist2 p157_31 (by first | rfl | assumption) ?_
        refine Gs_iload_n p157_32 rfl rfl ?_
        refine Gs_bipush p157_33 (by decide) ?_
        refine Gs_icmp_le (tgt := 43) p157_35 (by rfl) (by first | assumption | exact ⟨by omega, by omega⟩ | (split <;> exact ⟨by omega, by omega⟩)) (by first | assumption | exact ⟨by omega, by omega⟩ | (split <;> exact ⟨by omega, by omega⟩)) (fun h35 => ?_) (fun h35 => ?_)
        · refine Gs_iload_n p157_43 rfl rfl ?_
          refine Gs_if_ge (tgt := 51) p157_44 (by rfl) (by first | assumption | exact ⟨by omega, by omega⟩ | (split <;> exact ⟨by omega, by omega⟩)) (fun h44 => ?_) (fun h44 => ?_)
          · refine Gs_iload_n p157_51 rfl rfl ?_
            refine Gs_iret p157_52 rfl ⟨_, rfl, ?_⟩
            refine ⟨?_, rfl⟩
            unfold fedI mx mn heatI
            (repeat' split) <;> omega
          · refine Gs_iconst p157_47 ?_
            refine Gs_goto (tgt := 52) p157_48 (by rfl) ?_
            refine Gs_iret p157_52 rfl ⟨_, rfl, ?_⟩
            refine ⟨?_, rfl⟩
            unfold fedI mx mn heatI
            (repeat' split) <;> omega
        · refine Gs_bipush p157_38 (by decide) ?_
          refine Gs_goto (tgt := 52) p157_40 (by rfl) ?_
          refine Gs_iret p157_52 rfl ⟨_, rfl, ?_⟩
          refine ⟨?_, rfl⟩
          unfold fedI mx mn heatI
          (repeat' split) <;> omega
      · refine Gs_bipush p157_24 (by decide) ?_
        refine Gs_goto (tgt := 30) p157_26 (by rfl) ?_
        refine Gs_iadd p157_30 ?_
        refine Gs_ist2 p157_31 (by first | rfl | assumption) ?_
        refine Gs_iload_n p157_32 rfl rfl ?_
        refine Gs_bipush p157_33 (by decide) ?_
        refine Gs_icmp_le (tgt := 43) p157_35 (by rfl) (by first | assumption | exact ⟨by omega, by omega⟩ | (split <;> exact ⟨by omega, by omega⟩)) (by first | assumption | exact ⟨by omega, by omega⟩ | (split <;> exact ⟨by omega, by omega⟩)) (fun h35 => ?_) (fun h35 => ?_)
        · refine Gs_iload_n p157_43 rfl rfl ?_
          refine Gs_if_ge (tgt := 51) p157_44 (by rfl) (by first | assumption | exact ⟨by omega, by omega⟩ | (split <;> exact ⟨by omega, by omega⟩)) (fun h44 => ?_) (fun h44 => ?_)
          · refine Gs_iload_n p157_51 rfl rfl ?_
            refine Gs_iret p157_52 rfl ⟨_, rfl, ?_⟩
            refine ⟨?_, rfl⟩
            unfold fedI mx mn heatI
            (repeat' split) <;> omega
          · refine Gs_iconst p157_47 ?_
            refine Gs_goto (tgt := 52) p157_48 (by rfl) ?_
            refine Gs_iret p157_52 rfl ⟨_, rfl, ?_⟩
            refine ⟨?_, rfl⟩
            unfold fedI mx mn heatI
            (repeat' split) <;> omega
        · refine Gs_bipush p157_38 (by decide) ?_
          refine Gs_goto (tgt := 52) p157_40 (by rfl) ?_
          refine Gs_iret p157_52 rfl ⟨_, rfl, ?_⟩
          refine ⟨?_, rfl⟩
          unfold fedI mx mn heatI
          (repeat' split) <;> omega
    · refine Gs_bipush p157_14 (by decide) ?_
      refine Gs_goto (tgt := 30) p157_16 (by rfl) ?_
      refine Gs_iadd p157_30 ?_
      refine Gs_ist2 p157_31 (by first | rfl | assumption) ?_
      refine Gs_iload_n p157_32 rfl rfl ?_
      refine Gs_bipush p157_33 (by decide) ?_
      refine Gs_icmp_le (tgt := 43) p157_35 (by rfl) (by first | assumption | exact ⟨by omega, by omega⟩ | (split <;> exact ⟨by omega, by omega⟩)) (by first | assumption | exact ⟨by omega, by omega⟩ | (split <;> exact ⟨by omega, by omega⟩)) (fun h35 => ?_) (fun h35 => ?_)
      · refine Gs_iload_n p157_43 rfl rfl ?_
        refine Gs_if_ge (tgt := 51) p157_44 (by rfl) (by first | assumption | exact ⟨by omega, by omega⟩ | (split <;> exact ⟨by omega, by omega⟩)) (fun h44 => ?_) (fun h44 => ?_)
        · refine Gs_iload_n p157_51 rfl rfl ?_
          refine Gs_iret p157_52 rfl ⟨_, rfl, ?_⟩
          refine ⟨?_, rfl⟩
          unfold fedI mx mn heatI
          (repeat' split) <;> omega
        · refine Gs_iconst p157_47 ?_
          refine Gs_goto (tgt := 52) p157_48 (by rfl) ?_
          refine Gs_iret p157_52 rfl ⟨_, rfl, ?_⟩
          refine ⟨?_, rfl⟩
          unfold fedI mx mn heatI
          (repeat' split) <;> omega
      · refine Gs_bipush p157_38 (by decide) ?_
        refine Gs_goto (tgt := 52) p157_40 (by rfl) ?_
        refine Gs_iret p157_52 rfl ⟨_, rfl, ?_⟩
        refine ⟨?_, rfl⟩
        unfold fedI mx mn heatI
        (repeat' split) <;> omega
  · refine Gs_iconst p157_5 ?_
    refine Gs_goto (tgt := 30) p157_6 (by rfl) ?_
    refine Gs_iadd p157_30 ?_
    refine Gs_ist2 p157_31 (by first | rfl | assumption) ?_
    refine Gs_iload_n p157_32 rfl rfl ?_
    refine Gs_bipush p157_33 (by decide) ?_
    refine Gs_icmp_le (tgt := 43) p157_35 (by rfl) (by first | assumption | exact ⟨by omega, by omega⟩ | (split <;> exact ⟨by omega, by omega⟩)) (by first | assumption | exact ⟨by omega, by omega⟩ | (split <;> exact ⟨by omega, by omega⟩)) (fun h35 => ?_) (fun h35 => ?_)
    · refine Gs_iload_n p157_43 rfl rfl ?_
      refine Gs_if_ge (tgt := 51) p157_44 (by rfl) (by first | assumption | exact ⟨by omega, by omega⟩ | (split <;> exact ⟨by omega, by omega⟩)) (fun h44 => ?_) (fun h44 => ?_)
      · refine Gs_iload_n p157_51 rfl rfl ?_
        refine Gs_iret p157_52 rfl ⟨_, rfl, ?_⟩
        refine ⟨?_, rfl⟩
        unfold fedI mx mn heatI
        (repeat' split) <;> omega
      · refine Gs_iconst p157_47 ?_
        refine Gs_goto (tgt := 52) p157_48 (by rfl) ?_
        refine Gs_iret p157_52 rfl ⟨_, rfl, ?_⟩
        refine ⟨?_, rfl⟩
        unfold fedI mx mn heatI
        (repeat' split) <;> omega
    · refine Gs_bipush p157_38 (by decide) ?_
      refine Gs_goto (tgt := 52) p157_40 (by rfl) ?_
      refine Gs_iret p157_52 rfl ⟨_, rfl, ?_⟩
      refine ⟨?_, rfl⟩
      unfold fedI mx mn heatI
      (repeat' split) <;> omega

set_option maxHeartbeats 4000000 in
set_option maxRecDepth 4000 in
theorem c_cooler {X : vX} {s : St} {h l r : Int} (g0 : 0 ≤ h) (g1 : h ≤ 20) (g2 : rg l) (h2 : 0 ≤ r) (h3 : r ≤ 100) : OkI X 0 158 [.int (iI h), .int (iI l), .int (iI r)] s (Is1 (burntI h l r) s) := by
  refine Ok.of (r := vm_m158) (ls := [some (.int (iI h)), some (.int (iI l)), some (.int (iI r)), none]) rfl (Nat.le_of_ble_eq_true rfl) rfl (fun d hd => ?_)
  refine Gs_iload_n p158_0 rfl rfl ?_
  refine Gs_iconst p158_1 ?_
  refine Gs_isub p158_2 ?_
  refine Gs_iload_n p158_3 rfl rfl ?_
  refine Gs_iconst p158_4 ?_
  refine Gs_icmp_ne (tgt := 12) p158_5 (by rfl) (by first | assumption | exact ⟨by omega, by omega⟩ | (split <;> exact ⟨by omega, by omega⟩)) (by first | assumption | exact ⟨by omega, by omega⟩ | (split <;> exact ⟨by omega, by omega⟩)) (fun h5 => ?_) (fun h5 => ?_)
  · refine Gs_iload_n p158_12 rfl rfl ?_
    refine Gs_isub p158_13 ?_
    refine Gs_iload_n p158_14 rfl rfl ?_
    refine Gs_iconst p158_15 ?_
    refine Gs_icmp_ne (tgt := 23) p158_16 (by rfl) (by first | assumption | exact ⟨by omega, by omega⟩ | (split <;> exact ⟨by omega, by omega⟩)) (by first | assumption | exact ⟨by omega, by omega⟩ | (split <;> exact ⟨by omega, by omega⟩)) (fun h16 => ?_) (fun h16 => ?_)
    · refine Gs_iconst p158_23 ?_
      refine Gs_isub p158_24 ?_
      refine Gs_ist3 p158_25 (by first | rfl | assumption) ?_
      refine Gs_iload_n p158_26 rfl rfl ?_
      refine Gs_if_ge (tgt := 34) p158_27 (by rfl) (by first | assumption | exact ⟨by omega, by omega⟩ | (split <;> exact ⟨by omega, by omega⟩)) (fun h27 => ?_) (fun h27 => ?_)
      · refine Gs_iload_n p158_34 rfl rfl ?_
        refine Gs_iret p158_35 rfl ⟨_, rfl, ?_⟩
        refine ⟨?_, rfl⟩
        unfold burntI lossI mx
        (repeat' split) <;> omega
      · refine Gs_iconst p158_30 ?_
        refine Gs_goto (tgt := 35) p158_31 (by rfl) ?_
        refine Gs_iret p158_35 rfl ⟨_, rfl, ?_⟩
        refine ⟨?_, rfl⟩
        unfold burntI lossI mx
        (repeat' split) <;> omega
    · refine Gs_iconst p158_19 ?_
      refine Gs_goto (tgt := 24) p158_20 (by rfl) ?_
      refine Gs_isub p158_24 ?_
      refine Gs_ist3 p158_25 (by first | rfl | assumption) ?_
      refine Gs_iload_n p158_26 rfl rfl ?_
      refine Gs_if_ge (tgt := 34) p158_27 (by rfl) (by first | assumption | exact ⟨by omega, by omega⟩ | (split <;> exact ⟨by omega, by omega⟩)) (fun h27 => ?_) (fun h27 => ?_)
      · refine Gs_iload_n p158_34 rfl rfl ?_
        refine Gs_iret p158_35 rfl ⟨_, rfl, ?_⟩
        refine ⟨?_, rfl⟩
        unfold burntI lossI mx
        (repeat' split) <;> omega
      · refine Gs_iconst p158_30 ?_
        refine Gs_goto (tgt := 35) p158_31 (by rfl) ?_
        refine Gs_iret p158_35 rfl ⟨_, rfl, ?_⟩
        refine ⟨?_, rfl⟩
        unfold burntI lossI mx
        (repeat' split) <;> omega
  · refine Gs_iconst p158_8 ?_
    refine Gs_goto (tgt := 13) p158_9 (by rfl) ?_
    refine Gs_isub p158_13 ?_
    refine Gs_iload_n p158_14 rfl rfl ?_
    refine Gs_iconst p158_15 ?_
    refine Gs_icmp_ne (tgt := 23) p158_16 (by rfl) (by first | assumption | exact ⟨by omega, by omega⟩ | (split <;> exact ⟨by omega, by omega⟩)) (by first | assumption | exact ⟨by omega, by omega⟩ | (split <;> exact ⟨by omega, by omega⟩)) (fun h16 => ?_) (fun h16 => ?_)
    · refine Gs_iconst p158_23 ?_
      refine Gs_isub p158_24 ?_
      refine Gs_ist3 p158_25 (by first | rfl | assumption) ?_
      refine Gs_iload_n p158_26 rfl rfl ?_
      refine Gs_if_ge (tgt := 34) p158_27 (by rfl) (by first | assumption | exact ⟨by omega, by omega⟩ | (split <;> exact ⟨by omega, by omega⟩)) (fun h27 => ?_) (fun h27 => ?_)
      · refine Gs_iload_n p158_34 rfl rfl ?_
        refine Gs_iret p158_35 rfl ⟨_, rfl, ?_⟩
        refine ⟨?_, rfl⟩
        unfold burntI lossI mx
        (repeat' split) <;> omega
      · refine Gs_iconst p158_30 ?_
        refine Gs_goto (tgt := 35) p158_31 (by rfl) ?_
        refine Gs_iret p158_35 rfl ⟨_, rfl, ?_⟩
        refine ⟨?_, rfl⟩
        unfold burntI lossI mx
        (repeat' split) <;> omega
    · refine Gs_iconst p158_19 ?_
      refine Gs_goto (tgt := 24) p158_20 (by rfl) ?_
      refine Gs_isub p158_24 ?_
      refine Gs_ist3 p158_25 (by first | rfl | assumption) ?_
      refine Gs_iload_n p158_26 rfl rfl ?_
      refine Gs_if_ge (tgt := 34) p158_27 (by rfl) (by first | assumption | exact ⟨by omega, by omega⟩ | (split <;> exact ⟨by omega, by omega⟩)) (fun h27 => ?_) (fun h27 => ?_)
      · refine Gs_iload_n p158_34 rfl rfl ?_
        refine Gs_iret p158_35 rfl ⟨_, rfl, ?_⟩
        refine ⟨?_, rfl⟩
        unfold burntI lossI mx
        (repeat' split) <;> omega
      · refine Gs_iconst p158_30 ?_
        refine Gs_goto (tgt := 35) p158_31 (by rfl) ?_
        refine Gs_iret p158_35 rfl ⟨_, rfl, ?_⟩
        refine ⟨?_, rfl⟩
        unfold burntI lossI mx
        (repeat' split) <;> omega
