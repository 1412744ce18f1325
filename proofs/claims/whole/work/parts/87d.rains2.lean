/-! rains: the class -/
theorem row91 : isRow 91 21 := ⟨rfl, rfl, by decide⟩
theorem row93 : isRow 93 21 := ⟨rfl, rfl, by decide⟩
/-- an hour on: wet or dry -/
def stR (last : Int) (R : Int → Int) (b : Bool) (c h : Int) : Int := if c = 0 then 0 else burntI c last (R h + (if b = true then 2 else 0))
theorem stR_0 (last : Int) (R : Int → Int) (b : Bool) (h : Int) : stR last R b 0 h = 0 := by unfold stR; rw [if_pos rfl]
theorem stR_f {last : Int} {R : Int → Int} {c h : Int} (hc : ¬ c = 0) : stR last R false c h = burntI c last (R h) := by unfold stR; rw [if_neg hc, if_neg (by decide), Int.add_zero]
theorem stR_t {last : Int} {R : Int → Int} {c h : Int} (hc : ¬ c = 0) : stR last R true c h = burntI c last (R h + 2) := by unfold stR; rw [if_neg hc, if_pos rfl]
def dpT (st : Bool → Int → Int → Int) (x : Int) (W : Int → Int) (h k : Int) (i : Nat) : Int := (if st false ((i : Int) + 1) h = k then (10 - x) * W ((i : Int) + 1) else 0) + (if st true ((i : Int) + 1) h = k then x * W ((i : Int) + 1) else 0)
theorem dpS_T (st : Bool → Int → Int → Int) (x : Int) (W : Int → Int) (h k : Int) : dpS st x W h k = sN (dpT st x W h k) 20 := rfl
def ChF (s u : St) : Prop := (∀ a z, a ≠ 92 → a ≠ 94 → vA u a z = vA s a z) ∧ (∀ a k, ¬ (a = 91 ∧ k = 1) → ¬ (a = 93 ∧ k = 1) → vF u a k = vF s a k)
theorem ChF.trans {s t u : St} (h : ChF s t) (g : ChF t u) : ChF s u := ⟨fun a z e f => (g.1 a z e f).trans (h.1 a z e f), fun a k e f => (g.2 a k e f).trans (h.2 a k e f)⟩
set_option maxHeartbeats 1000000 in
set_option maxRecDepth 4000 in
theorem c_addWays {X : vX} {s : St} {k more : Int} (e : vF s 93 1 = 21) (k0 : 0 ≤ k) (k1 : k ≤ 20) : OkV X 1 28 [.ref 90, .int (iI k), .int (iI more)] s (Is0 (sA s 94 k (vA s 94 k + more))) := by
  refine Ok.of (r := vm_m28) (ls := [some (.ref 90), some (.int (iI k)), some (.int (iI more))]) rfl (Nat.le_of_ble_eq_true rfl) rfl (fun d hd => ?_)
  refine Gs_aload_n p28_0 rfl rfl ?_
  refine Gs_getR p28_1 (by first | rfl | assumption | exact (show isTale _ from by assumption).1 | exact (show isCamp _ _ from by assumption).1 | exact (show isRow _ _ from by assumption).1) (by rfl) ?_
  refine Gs_iload_n p28_4 rfl rfl ?_
  refine Gs_aload_n p28_5 rfl rfl ?_
  refine Gs_getR p28_6 (by first | rfl | assumption | exact (show isTale _ from by assumption).1 | exact (show isCamp _ _ from by assumption).1 | exact (show isRow _ _ from by assumption).1) (by rfl) ?_
  refine Gs_iload_n p28_9 rfl rfl ?_
  refine Gs_callV1I p28_10 (by rfl) (by rfl) (by rfl) (Nat.le_of_ble_eq_true rfl) (by decide) (c_agot (a := 94) row93 rfl ⟨by omega, by omega⟩ (by omega) (by omega) k0 (by omega)) (by omega) ?_
  refine Gs_iload_n p28_13 rfl rfl ?_
  refine Gs_iadd p28_14 ?_
  refine Gs_callV2W p28_15 (by rfl) (by rfl) (by rfl) (Nat.le_of_ble_eq_true rfl) (by decide) (c_aset (a := 94) row93 rfl ⟨by omega, by omega⟩ (by omega) (by omega) k0 (by omega)) (by omega) ?_
  refine Gs_vret p28_18 rfl ⟨rfl, ?_⟩
  exact rfl

set_option maxHeartbeats 4000000 in
set_option maxRecDepth 4000 in
theorem c_chBurn {X : vX} {s : St} {last x h : Int} {R W : Int → Int} (gl : rg last) (r0 : 0 ≤ R h) (r1 : R h ≤ 100) (e : vF s 91 1 = 21) (hW : ∀ k, 1 ≤ k → k ≤ 20 → vA s 92 k = W k) : OkV X 3 27 [.ref 90, .int (iI last), .int (iI (R h)), .int (iI x)] s (fun u => ChF s u ∧ vF u 91 1 = 21 ∧ ∀ k, 0 ≤ k → k ≤ 20 → vA u 92 k = dpS (stR last R) x W h k) := by
  refine Ok.of (r := vm_m27) (ls := [some (.ref 90), some (.int (iI last)), some (.int (iI (R h))), some (.int (iI x)), none]) rfl (Nat.le_of_ble_eq_true rfl) rfl (fun d hd => ?_)
  refine Gs_aload_n p27_0 rfl rfl ?_
  refine Gs_getR p27_1 (by first | rfl | assumption | exact (show isTale _ from by assumption).1 | exact (show isCamp _ _ from by assumption).1 | exact (show isRow _ _ from by assumption).1) (by rfl) ?_
  refine Gs_iconst p27_4 ?_
  refine Gs_callV1W p27_5 (by rfl) (by rfl) (by rfl) (Nat.le_of_ble_eq_true rfl) (by decide) (c_fill row93) (by omega) ?_
  refine Gs_iconst p27_8 ?_
  refine Gs_ist4 p27_9 (by first | rfl | assumption) ?_
  refine dn (n := (20 : Int)) (P := fun i => ∀ y : St, (∀ a z, a ≠ 94 → vA y a z = vA s a z) → (∀ a k, ¬ (a = 93 ∧ k = 1) → vF y a k = vF s a k) → vF y 93 1 = 21 → (∀ k, 0 ≤ k → k ≤ 20 → vA y 94 k = sN (dpT (stR last R) x W h k) i.toNat) → Gs X d 27 11 [some (.ref 90), some (.int (iI last)), some (.int (iI (R h))), some (.int (iI x)), some (.int (iI (i + 1)))] [] (y) (fun vv yy => vv = none ∧ (fun u => ChF s u ∧ vF u 91 1 = 21 ∧ ∀ k, 0 ≤ k → k ≤ 20 → vA u 92 k = dpS (stR last R) x W h k) yy)) (by omega) (fun i hi hin ih => ?_) ?_ (cF (sF s 93 1 21) 94 21 0) (fun a z q => by rw [cF_A, if_neg (fun r => q r.1)]; rfl) (fun a k q => by rw [cF_F, vF_sF, if_neg q]) rfl (fun k k0 k1 => by rw [cF_A, if_pos ⟨rfl, by omega, by omega⟩]; rfl)
  · show ∀ y : St, (∀ a z, a ≠ 94 → vA y a z = vA s a z) → (∀ a k, ¬ (a = 93 ∧ k = 1) → vF y a k = vF s a k) → vF y 93 1 = 21 → (∀ k, 0 ≤ k → k ≤ 20 → vA y 94 k = sN (dpT (stR last R) x W h k) i.toNat) → Gs X d 27 11 [some (.ref 90), some (.int (iI last)), some (.int (iI (R h))), some (.int (iI x)), some (.int (iI (i + 1)))] [] (y) _
    intro y oA oF e93 hk
    have ey : vF y 91 1 = 21 := (oF _ _ (by decide)).trans e
    have b1 := burntI_b (h := i + 1) (last := last) (rain := R h) (by omega) r0
    have b2 := burntI_b (h := i + 1) (last := last) (rain := R h + 2) (by omega) (by omega)
    have wv : vA y 92 (i + 1) = W (i + 1) := (oA _ _ (by decide)).trans (hW _ (by omega) (by omega))
    refine Gs_iload p27_11 rfl rfl ?_
    refine Gs_bipush p27_13 (by decide) ?_
    refine Gs_icmp_gt (tgt := 73) p27_15 (by rfl) (by first | assumption | exact ⟨by omega, by omega⟩ | (split <;> exact ⟨by omega, by omega⟩)) (by first | assumption | exact ⟨by omega, by omega⟩ | (split <;> exact ⟨by omega, by omega⟩)) (fun hc15 => absurd ‹_› (by first | omega | assumption)) (fun hc15 => ?_)
    refine Gs_aload_n p27_18 rfl rfl ?_
    refine Gs_iload p27_19 rfl rfl ?_
    refine Gs_iload_n p27_21 rfl rfl ?_
    refine Gs_iload_n p27_22 rfl rfl ?_
    refine Gs_callS3I p27_23 (by rfl) (Nat.le_of_ble_eq_true rfl) (by decide) (c_burnt (by omega) (by omega) r0 (by omega) gl) (by omega) ?_
    refine Gs_aload_n p27_26 rfl rfl ?_
    refine Gs_getR p27_27 (by first | rfl | assumption | exact (show isTale _ from by assumption).1 | exact (show isCamp _ _ from by assumption).1 | exact (show isRow _ _ from by assumption).1) (by rfl) ?_
    refine Gs_iload p27_30 rfl rfl ?_
    refine Gs_callV1I p27_32 (by rfl) (by rfl) (by rfl) (Nat.le_of_ble_eq_true rfl) (by decide) (c_agot (a := 92) row91 rfl ⟨by omega, by omega⟩ (by omega) (by omega) (by omega) (by omega)) (by omega) ?_
    rw [wv]
    refine Gs_bipush p27_35 (by decide) ?_
    refine Gs_iload_n p27_37 rfl rfl ?_
    refine Gs_isub p27_38 ?_
    refine Gs_imul p27_39 ?_
    refine Gs_callV2W p27_40 (by rfl) (by rfl) (by rfl) (Nat.le_of_ble_eq_true rfl) (by decide) (c_addWays e93 b1.1 b1.2) (by omega) ?_
    refine Gs_aload_n p27_43 rfl rfl ?_
    refine Gs_iload p27_44 rfl rfl ?_
    refine Gs_iload_n p27_46 rfl rfl ?_
    refine Gs_iload_n p27_47 rfl rfl ?_
    refine Gs_iconst p27_48 ?_
    refine Gs_iadd p27_49 ?_
    refine Gs_callS3I p27_50 (by rfl) (Nat.le_of_ble_eq_true rfl) (by decide) (c_burnt (by omega) (by omega) (by omega) (by omega) gl) (by omega) ?_
    refine Gs_aload_n p27_53 rfl rfl ?_
    refine Gs_getR p27_54 (by first | rfl | assumption | exact (show isTale _ from by assumption).1 | exact (show isCamp _ _ from by assumption).1 | exact (show isRow _ _ from by assumption).1) (by rfl) ?_
    refine Gs_iload p27_57 rfl rfl ?_
    refine Gs_callV1I p27_59 (by rfl) (by rfl) (by rfl) (Nat.le_of_ble_eq_true rfl) (by decide) (c_agot (a := 92) row91 rfl ⟨by omega, by omega⟩ (show 0 ≤ vF y 91 1 by omega) (show vF y 91 1 ≤ ((21 : Nat) : Int) by omega) (by omega) (show i + 1 < vF y 91 1 by omega)) (by omega) ?_
    rw [vA_sA, if_neg (fun q => by omega), wv]
    refine Gs_iload_n p27_62 rfl rfl ?_
    refine Gs_imul p27_63 ?_
    refine Gs_callV2W p27_64 (by rfl) (by rfl) (by rfl) (Nat.le_of_ble_eq_true rfl) (by decide) (c_addWays (show vF y 93 1 = 21 from e93) b2.1 b2.2) (by omega) ?_
    refine Gs_iinc4 (b54 := none) p27_67 (by first | rfl | assumption) ?_
    refine Gs_goto (tgt := 11) p27_70 (by rfl) ?_
    refine ih _ (fun a z q => by rw [vA_sA, if_neg (fun r => q r.1), vA_sA, if_neg (fun r => q r.1)]; exact oA a z q) (fun a k q => oF a k q) e93 (fun k k0 k1 => ?_)
    rw [show (i + 1).toNat = i.toNat + 1 by omega, sN_s, ← hk k k0 k1]
    have d1 : dpT (stR last R) x W h k i.toNat = (if burntI (i + 1) last (R h) = k then (10 - x) * W (i + 1) else 0) + (if burntI (i + 1) last (R h + 2) = k then x * W (i + 1) else 0) := by
      unfold dpT
      rw [show ((i.toNat : Nat) : Int) = i by omega, stR_f (by omega), stR_t (by omega)]
    rw [d1, vA_sA, vA_sA, vA_sA, Int.mul_comm (W (i + 1)) (10 - x), Int.mul_comm (W (i + 1)) x]
    by_cases c1 : burntI (i + 1) last (R h) = k
    · by_cases c2 : burntI (i + 1) last (R h + 2) = k
      · rw [if_pos ⟨rfl, c2.symm⟩, if_pos ⟨rfl, c2.trans c1.symm⟩, if_pos c1, if_pos c2, c1]; omega
      · rw [if_neg (fun q => c2 q.2.symm), if_pos ⟨rfl, c1.symm⟩, if_pos c1, if_neg c2, c1]; omega
    · by_cases c2 : burntI (i + 1) last (R h + 2) = k
      · rw [if_pos ⟨rfl, c2.symm⟩, if_neg (fun q => c1 (q.2.symm.trans c2)), if_neg c1, if_pos c2, c2]; omega
      · rw [if_neg (fun q => c2 q.2.symm), if_neg (fun q => c1 q.2.symm), if_neg c1, if_neg c2]; omega
  · show ∀ y : St, (∀ a z, a ≠ 94 → vA y a z = vA s a z) → (∀ a k, ¬ (a = 93 ∧ k = 1) → vF y a k = vF s a k) → vF y 93 1 = 21 → (∀ k, 0 ≤ k → k ≤ 20 → vA y 94 k = sN (dpT (stR last R) x W h k) ((20 : Int)).toNat) → Gs X d 27 11 [some (.ref 90), some (.int (iI last)), some (.int (iI (R h))), some (.int (iI x)), some (.int (iI (((20 : Int)) + 1)))] [] (y) _
    intro y oA oF e93 hk
    refine Gs_iload p27_11 rfl rfl ?_
    refine Gs_bipush p27_13 (by decide) ?_
    refine Gs_icmp_gt (tgt := 73) p27_15 (by rfl) (by first | assumption | exact ⟨by omega, by omega⟩ | (split <;> exact ⟨by omega, by omega⟩)) (by first | assumption | exact ⟨by omega, by omega⟩ | (split <;> exact ⟨by omega, by omega⟩)) (fun hc15 => ?_) (fun hc15 => absurd ‹_› (by first | omega | assumption))
    refine Gs_aload_n p27_73 rfl rfl ?_
    refine Gs_getR p27_74 (by first | rfl | assumption | exact (show isTale _ from by assumption).1 | exact (show isCamp _ _ from by assumption).1 | exact (show isRow _ _ from by assumption).1) (by rfl) ?_
    refine Gs_aload_n p27_77 rfl rfl ?_
    refine Gs_getR p27_78 (by first | rfl | assumption | exact (show isTale _ from by assumption).1 | exact (show isCamp _ _ from by assumption).1 | exact (show isRow _ _ from by assumption).1) (by rfl) ?_
    refine Gs_callV1W p27_81 (by rfl) (by rfl) (by rfl) (Nat.le_of_ble_eq_true rfl) (by decide) (c_become row91 row93 (by decide) (by decide) (show 0 ≤ vF y 93 1 by omega) (show vF y 93 1 ≤ ((21 : Nat) : Int) by omega) (show vF y 93 1 ≤ ((21 : Nat) : Int) by omega)) (by omega) ?_
    refine Gs_vret p27_84 rfl ⟨rfl, ?_⟩
    refine ⟨⟨fun a z q1 q2 => ?_, fun a k q1 q2 => ?_⟩, ?_, fun k k0 k1 => ?_⟩
    · show (if a = 92 ∧ 0 ≤ z ∧ z < vF y 93 1 then vA y 94 z else vA y a z) = _
      rw [if_neg (fun q => q1 q.1)]; exact oA a z q2
    · show vF (sF _ 91 1 _) a k = _
      rw [vF_sF, if_neg q1]; exact oF a k q2
    · exact (show vF (sCopy y 91 93) 91 1 = vF y 93 1 from rfl).trans e93
    · show (if (92 : Nat) = 92 ∧ 0 ≤ k ∧ k < vF y 93 1 then vA y 94 k else vA y 92 k) = _
      rw [if_pos ⟨rfl, k0, by omega⟩, hk k k0 k1, dpS_T]; rfl
