/-! rains: the class' answer -/
set_option maxHeartbeats 8000000 in
set_option maxRecDepth 4000 in
theorem c_chance {X : vX} {s : St} {N c n x part : Int} (hT : TaleOk s 5) (hC : CampOk s 14 N) (c0 : 0 ≤ c) (c1 : c < N) (n0 : 0 ≤ n) (n1 : n ≤ 8) (x0 : 0 ≤ x) (x1 : x ≤ 10) (p0 : 0 ≤ part) (p1 : part ≤ 1) : OkI X 4 26 [.ref 90, .ref 14, .int (iI c), .int (iI n), .int (iI x), .int (iI part)] s (fun z u => z = raA part n.toNat (FW (stR (cg s 14 c 6) (fun e => rnI s 5 (vF s 14 2 + e))) x n.toNat (cg s 14 c 0) 0) ∧ ChF s u) := by
  refine Ok.of (r := vm_m26) (ls := [some (.ref 90), some (.ref 14), some (.int (iI c)), some (.int (iI n)), some (.int (iI x)), some (.int (iI part)), none, none, none]) rfl (Nat.le_of_ble_eq_true rfl) rfl (fun d hd => ?_)
  have hot : 0 ≤ cg s 14 c 0 ∧ cg s 14 c 0 ≤ 20 := hC.b c0 c1 (w := 0) (by omega) (by omega)
  have gl : rg (cg s 14 c 6) := by have := hC.r c0 c1 (w := 6) (by omega) (by omega); exact ⟨by omega, by omega⟩
  have hh := hC.2.2.2.1
  have hh2 := hC.2.2.2.2.1
  have stb : ∀ b k h, 1 ≤ k → k ≤ 20 → 0 ≤ (stR (cg s 14 c 6) (fun e => rnI s 5 (vF s 14 2 + e))) b k h ∧ (stR (cg s 14 c 6) (fun e => rnI s 5 (vF s 14 2 + e))) b k h ≤ 20 := fun b k h k0 k1 => by
    unfold stR
    rw [if_neg (by omega)]
    have q : 0 ≤ (fun e => rnI s 5 (vF s 14 2 + e)) h ∧ (fun e => rnI s 5 (vF s 14 2 + e)) h ≤ 3 := rnI_b hT (vF s 14 2 + h)
    exact burntI_b k1 (by split <;> omega)
  have fb := FW_b (stR (cg s 14 c 6) (fun e => rnI s 5 (vF s 14 2 + e))) x0 x1 n.toNat (cg s 14 c 0) 0
  have tb := ten8 (n := n.toNat) (by omega)
  obtain ⟨B, hB⟩ : ∃ B : Nat, (10 : Int) ^ n.toNat = B := ⟨((10 : Int) ^ n.toNat).toNat, (Int.toNat_of_nonneg (by omega)).symm⟩
  obtain ⟨A, hA⟩ : ∃ A : Nat, (FW (stR (cg s 14 c 6) (fun e => rnI s 5 (vF s 14 2 + e))) x n.toNat (cg s 14 c 0) 0) = A := ⟨((FW (stR (cg s 14 c 6) (fun e => rnI s 5 (vF s 14 2 + e))) x n.toNat (cg s 14 c 0) 0)).toNat, (Int.toNat_of_nonneg fb.1).symm⟩
  refine Gs_aload_n p26_0 rfl rfl ?_
  refine Gs_getR p26_1 (by first | rfl | assumption | exact (show isTale _ from by assumption).1 | exact (show isCamp _ _ from by assumption).1 | exact (show isRow _ _ from by assumption).1) (by rfl) ?_
  refine Gs_iconst p26_4 ?_
  refine Gs_callV1W p26_5 (by rfl) (by rfl) (by rfl) (Nat.le_of_ble_eq_true rfl) (by decide) (c_fill row91) (by omega) ?_
  refine Gs_aload_n p26_8 rfl rfl ?_
  refine Gs_getR p26_9 (by first | rfl | assumption | exact (show isTale _ from by assumption).1 | exact (show isCamp _ _ from by assumption).1 | exact (show isRow _ _ from by assumption).1) (by rfl) ?_
  refine Gs_aload_n p26_12 rfl rfl ?_
  refine Gs_iload_n p26_13 rfl rfl ?_
  refine Gs_iconst p26_14 ?_
  refine Gs_callV2I p26_15 (by rfl) (by rfl) (by rfl) (Nat.le_of_ble_eq_true rfl) (by decide) (c_Cget (s := cF (sF s 91 1 21) 92 21 0) camp14 (n := N) (hC.cong rfl rfl (fun z => rfl)) c0 c1 (by omega) (by omega)) (by omega) ?_
  rw [show cg (cF (sF s 91 1 21) 92 21 0) 14 c 0 = cg s 14 c 0 from rfl]
  refine Gs_iconst p26_18 ?_
  refine Gs_callV2W p26_19 (by rfl) (by rfl) (by rfl) (Nat.le_of_ble_eq_true rfl) (by decide) (c_aset (a := 92) row91 rfl ⟨by omega, by omega⟩ (show (0 : Int) ≤ 21 by omega) (show (21 : Int) ≤ 21 by omega) hot.1 (show cg s 14 c 0 < 21 by omega)) (by omega) ?_
  refine Gs_iconst p26_22 ?_
  refine Gs_ist6 p26_23 (by first | rfl | assumption) ?_
  refine Gs_iconst p26_25 ?_
  refine Gs_ist7 p26_26 (by first | rfl | assumption) ?_
  refine dn (n := n) (P := fun i => ∀ y : St, ChF s y → vF y 91 1 = 21 → (∀ k, 0 ≤ k → k ≤ 20 → vA y 92 k = dpN (stR (cg s 14 c 6) (fun e => rnI s 5 (vF s 14 2 + e))) x (fun e => if cg s 14 c 0 = e then 1 else 0) i.toNat k) → Gs X d 26 28 [some (.ref 90), some (.ref 14), some (.int (iI c)), some (.int (iI n)), some (.int (iI x)), some (.int (iI part)), some (.int (iI ((10 : Int) ^ i.toNat))), some (.int (iI i)), none] [] (y) (fun vv yy => ∃ zz : Int, vv = some (.int (iI zz)) ∧ (fun z u => z = raA part n.toNat (FW (stR (cg s 14 c 6) (fun e => rnI s 5 (vF s 14 2 + e))) x n.toNat (cg s 14 c 0) 0) ∧ ChF s u) zz yy)) (by omega) (fun i hi hin ih => ?_) ?_ (sA (cF (sF s 91 1 21) 92 21 0) 92 (cg s 14 c 0) 1) ⟨fun a z q _ => by rw [vA_sA, if_neg (fun r => q r.1), cF_A, if_neg (fun r => q r.1)]; rfl, fun a k q _ => by rw [vF_sA, cF_F, vF_sF, if_neg q]⟩ rfl (fun k k0 k1 => ?_)
  · show ∀ y : St, ChF s y → vF y 91 1 = 21 → (∀ k, 0 ≤ k → k ≤ 20 → vA y 92 k = dpN (stR (cg s 14 c 6) (fun e => rnI s 5 (vF s 14 2 + e))) x (fun e => if cg s 14 c 0 = e then 1 else 0) i.toNat k) → Gs X d 26 28 [some (.ref 90), some (.ref 14), some (.int (iI c)), some (.int (iI n)), some (.int (iI x)), some (.int (iI part)), some (.int (iI ((10 : Int) ^ i.toNat))), some (.int (iI i)), none] [] (y) _
    intro y o e hk
    have hC2 : CampOk y 14 N := hC.cong (o.2 _ _ (by decide) (by decide)) (o.2 _ _ (by decide) (by decide)) (fun z => o.1 _ z (by decide) (by decide))
    have hT2 : TaleOk y 5 := hT.cong (o.2 _ _ (by decide) (by decide)) (o.2 _ _ (by decide) (by decide)) (o.2 _ _ (by decide) (by decide)) (fun z => o.1 _ z (by decide) (by decide)) (fun z => o.1 _ z (by decide) (by decide))
    have eh : vF y 14 2 = vF s 14 2 := o.2 _ _ (by decide) (by decide)
    have er : rnI y 5 (vF s 14 2 + i) = (fun e => rnI s 5 (vF s 14 2 + e)) i := rnI_cong (o.2 _ _ (by decide) (by decide)) (fun z => o.1 _ z (by decide) (by decide)) _
    have rb := rnI_b hT (vF s 14 2 + i)
    have c6 : cg y 14 c 6 = cg s 14 c 6 := cg_cong (fun z => o.1 _ z (by decide) (by decide)) _ _
    refine Gs_iload p26_28 rfl rfl ?_
    refine Gs_iload_n p26_30 rfl rfl ?_
    refine Gs_icmp_ge (tgt := 74) p26_31 (by rfl) (by first | assumption | exact ⟨by omega, by omega⟩ | (split <;> exact ⟨by omega, by omega⟩)) (by first | assumption | exact ⟨by omega, by omega⟩ | (split <;> exact ⟨by omega, by omega⟩)) (fun hc31 => absurd ‹_› (by first | omega | assumption)) (fun hc31 => ?_)
    refine Gs_aload_n p26_34 rfl rfl ?_
    refine Gs_aload_n p26_35 rfl rfl ?_
    refine Gs_iload_n p26_36 rfl rfl ?_
    refine Gs_bipush p26_37 (by decide) ?_
    refine Gs_callV2I p26_39 (by rfl) (by rfl) (by rfl) (Nat.le_of_ble_eq_true rfl) (by decide) (c_Cget camp14 hC2 c0 c1 (by omega) (by omega)) (by omega) ?_
    rw [c6]
    refine Gs_aload_n p26_42 rfl rfl ?_
    refine Gs_getR p26_43 (by first | rfl | assumption | exact (show isTale _ from by assumption).1 | exact (show isCamp _ _ from by assumption).1 | exact (show isRow _ _ from by assumption).1) (by rfl) ?_
    refine Gs_aload_n p26_46 rfl rfl ?_
    refine Gs_callV0I p26_47 (by rfl) (by rfl) (by rfl) (Nat.le_of_ble_eq_true rfl) (by decide) (c_hours camp14 hC2) (by omega) ?_
    rw [eh]
    refine Gs_iload p26_50 rfl rfl ?_
    refine Gs_iadd p26_52 ?_
    refine Gs_callV1I p26_53 (by rfl) (by rfl) (by rfl) (Nat.le_of_ble_eq_true rfl) (by decide) (c_rainAt tale5 hT2 (by omega) (by omega)) (by omega) ?_
    rw [er]
    refine Gs_iload p26_56 rfl rfl ?_
    refine Gs_callV3v p26_58 (by rfl) (by rfl) (by rfl) (Nat.le_of_ble_eq_true rfl) (by decide) (c_chBurn (h := i) (R := (fun e => rnI s 5 (vF s 14 2 + e))) (W := dpN (stR (cg s 14 c 6) (fun e => rnI s 5 (vF s 14 2 + e))) x (fun e => if cg s 14 c 0 = e then 1 else 0) i.toNat) gl rb.1 (show rnI s 5 (vF s 14 2 + i) ≤ 100 by omega) e (fun k k0 k1 => hk k (by omega) k1)) (by omega) (fun s58 h58 => ?_)
    refine Gs_iload p26_61 rfl rfl ?_
    refine Gs_bipush p26_63 (by decide) ?_
    refine Gs_imul p26_65 ?_
    rw [show (10 : Int) ^ i.toNat * 10 = (10 : Int) ^ (i + 1).toNat by rw [show (i + 1).toNat = i.toNat + 1 by omega, Int.pow_succ]]
    refine Gs_ist6 p26_66 (by first | rfl | assumption) ?_
    refine Gs_iinc7 (b57 := none) p26_68 (by first | rfl | assumption) ?_
    refine Gs_goto (tgt := 28) p26_71 (by rfl) ?_
    refine ih _ (o.trans h58.1) h58.2.1 (fun k k0 k1 => ?_)
    rw [h58.2.2 k k0 k1, show (i + 1).toNat = i.toNat + 1 by omega]
    show _ = dpS _ x (dpN _ x _ i.toNat) ((i.toNat : Nat) : Int) k
    rw [show ((i.toNat : Nat) : Int) = i by omega]
  · show ∀ y : St, ChF s y → vF y 91 1 = 21 → (∀ k, 0 ≤ k → k ≤ 20 → vA y 92 k = dpN (stR (cg s 14 c 6) (fun e => rnI s 5 (vF s 14 2 + e))) x (fun e => if cg s 14 c 0 = e then 1 else 0) (n).toNat k) → Gs X d 26 28 [some (.ref 90), some (.ref 14), some (.int (iI c)), some (.int (iI n)), some (.int (iI x)), some (.int (iI part)), some (.int (iI ((10 : Int) ^ (n).toNat))), some (.int (iI (n))), none] [] (y) _
    intro y o e hk
    refine Gs_iload p26_28 rfl rfl ?_
    refine Gs_iload_n p26_30 rfl rfl ?_
    refine Gs_icmp_ge (tgt := 74) p26_31 (by rfl) (by first | assumption | exact ⟨by omega, by omega⟩ | (split <;> exact ⟨by omega, by omega⟩)) (by first | assumption | exact ⟨by omega, by omega⟩ | (split <;> exact ⟨by omega, by omega⟩)) (fun hc31 => ?_) (fun hc31 => absurd ‹_› (by first | omega | assumption))
    refine Gs_iconst p26_74 ?_
    refine Gs_ist7 p26_75 (by first | rfl | assumption) ?_
    refine Gs_iconst p26_77 ?_
    refine Gs_ist8 p26_78 (by first | rfl | assumption) ?_
    refine dn (n := (20 : Int)) (P := fun i => Gs X d 26 80 [some (.ref 90), some (.ref 14), some (.int (iI c)), some (.int (iI n)), some (.int (iI x)), some (.int (iI part)), some (.int (iI ((10 : Int) ^ n.toNat))), some (.int (iI (sN (fun e => (dpN (stR (cg s 14 c 6) (fun e => rnI s 5 (vF s 14 2 + e))) x (fun e => if cg s 14 c 0 = e then 1 else 0) n.toNat) ((e : Int) + 1)) i.toNat))), some (.int (iI (i + 1)))] [] (y) (fun vv yy => ∃ zz : Int, vv = some (.int (iI zz)) ∧ (fun z u => z = raA part n.toNat (FW (stR (cg s 14 c 6) (fun e => rnI s 5 (vF s 14 2 + e))) x n.toNat (cg s 14 c 0) 0) ∧ ChF s u) zz yy)) (by omega) (fun i hi hin ih => ?_) ?_
    · show Gs X d 26 80 [some (.ref 90), some (.ref 14), some (.int (iI c)), some (.int (iI n)), some (.int (iI x)), some (.int (iI part)), some (.int (iI ((10 : Int) ^ n.toNat))), some (.int (iI (sN (fun e => (dpN (stR (cg s 14 c 6) (fun e => rnI s 5 (vF s 14 2 + e))) x (fun e => if cg s 14 c 0 = e then 1 else 0) n.toNat) ((e : Int) + 1)) i.toNat))), some (.int (iI (i + 1)))] [] (y) _
      refine Gs_iload p26_80 rfl rfl ?_
      refine Gs_bipush p26_82 (by decide) ?_
      refine Gs_icmp_gt (tgt := 107) p26_84 (by rfl) (by first | assumption | exact ⟨by omega, by omega⟩ | (split <;> exact ⟨by omega, by omega⟩)) (by first | assumption | exact ⟨by omega, by omega⟩ | (split <;> exact ⟨by omega, by omega⟩)) (fun hc84 => absurd ‹_› (by first | omega | assumption)) (fun hc84 => ?_)
      refine Gs_iload p26_87 rfl rfl ?_
      refine Gs_aload_n p26_89 rfl rfl ?_
      refine Gs_getR p26_90 (by first | rfl | assumption | exact (show isTale _ from by assumption).1 | exact (show isCamp _ _ from by assumption).1 | exact (show isRow _ _ from by assumption).1) (by rfl) ?_
      refine Gs_iload p26_93 rfl rfl ?_
      refine Gs_callV1I p26_95 (by rfl) (by rfl) (by rfl) (Nat.le_of_ble_eq_true rfl) (by decide) (c_agot (a := 92) row91 rfl ⟨by omega, by omega⟩ (by omega) (by omega) (by omega) (by omega)) (by omega) ?_
      rw [hk _ (by omega) (by omega)]
      refine Gs_iadd p26_98 ?_
      rw [show sN (fun e => (dpN (stR (cg s 14 c 6) (fun e => rnI s 5 (vF s 14 2 + e))) x (fun e => if cg s 14 c 0 = e then 1 else 0) n.toNat) ((e : Int) + 1)) i.toNat + (dpN (stR (cg s 14 c 6) (fun e => rnI s 5 (vF s 14 2 + e))) x (fun e => if cg s 14 c 0 = e then 1 else 0) n.toNat) (i + 1) = sN (fun e => (dpN (stR (cg s 14 c 6) (fun e => rnI s 5 (vF s 14 2 + e))) x (fun e => if cg s 14 c 0 = e then 1 else 0) n.toNat) ((e : Int) + 1)) (i + 1).toNat by rw [show (i + 1).toNat = i.toNat + 1 by omega, sN_s, show ((i.toNat : Nat) : Int) = i by omega]]
      refine Gs_ist7 p26_99 (by first | rfl | assumption) ?_
      refine Gs_iinc8 (b58 := none) p26_101 (by first | rfl | assumption) ?_
      refine Gs_goto (tgt := 80) p26_104 (by rfl) ?_
      exact ih
    · show Gs X d 26 80 [some (.ref 90), some (.ref 14), some (.int (iI c)), some (.int (iI n)), some (.int (iI x)), some (.int (iI part)), some (.int (iI ((10 : Int) ^ n.toNat))), some (.int (iI (sN (fun e => (dpN (stR (cg s 14 c 6) (fun e => rnI s 5 (vF s 14 2 + e))) x (fun e => if cg s 14 c 0 = e then 1 else 0) n.toNat) ((e : Int) + 1)) ((20 : Int)).toNat))), some (.int (iI (((20 : Int)) + 1)))] [] (y) _
      refine Gs_iload p26_80 rfl rfl ?_
      refine Gs_bipush p26_82 (by decide) ?_
      refine Gs_icmp_gt (tgt := 107) p26_84 (by rfl) (by first | assumption | exact ⟨by omega, by omega⟩ | (split <;> exact ⟨by omega, by omega⟩)) (by first | assumption | exact ⟨by omega, by omega⟩ | (split <;> exact ⟨by omega, by omega⟩)) (fun hc84 => ?_) (fun hc84 => absurd ‹_› (by first | omega | assumption))
      rw [show Int.toNat 20 = 20 from rfl, dp_all (stR (cg s 14 c 6) (fun e => rnI s 5 (vF s 14 2 + e))) x (cg s 14 c 0) (fun b h => stR_0 _ _ b h) stb hot.1 hot.2 n.toNat, hA, hB]
      refine Gs_iload p26_107 rfl rfl ?_
      refine Gs_iload p26_109 rfl rfl ?_
      refine Gs_callS2I p26_111 (by rfl) (Nat.le_of_ble_eq_true rfl) (by decide) (c_divisor (a := B) (b := A) (by omega) (by omega)) (by omega) ?_
      have gp : 0 < Nat.gcd B A := Nat.gcd_pos_of_pos_left _ (by omega)
      have gle : Nat.gcd B A ≤ B := Nat.gcd_le_left _ (by omega)
      refine Gs_ist8 p26_114 (by first | rfl | assumption) ?_
      refine Gs_iload p26_116 rfl rfl ?_
      refine Gs_iconst p26_118 ?_
      refine Gs_icmp_ge (tgt := 124) p26_119 (by rfl) (by first | assumption | exact ⟨by omega, by omega⟩ | (split <;> exact ⟨by omega, by omega⟩)) (by first | assumption | exact ⟨by omega, by omega⟩ | (split <;> exact ⟨by omega, by omega⟩)) (fun h119 => ?_) (fun h119 => ?_)
      · refine Gs_iload p26_124 rfl rfl ?_
        refine Gs_if_ne (tgt := 137) p26_126 (by rfl) (by first | assumption | exact ⟨by omega, by omega⟩ | (split <;> exact ⟨by omega, by omega⟩)) (fun h126 => ?_) (fun h126 => ?_)
        · refine Gs_iload p26_137 rfl rfl ?_
          refine Gs_iload p26_139 rfl rfl ?_
          refine Gs_idiv p26_141 (by omega) (by omega) (by omega) (by omega) ?_
          refine Gs_iret p26_142 rfl ⟨_, rfl, ?_⟩
          first
            | exact ⟨by unfold raA; rw [hB, Int.toNat_natCast, Int.toNat_natCast, if_pos (show part = 0 by omega)], o⟩
            | exact ⟨by unfold raA; rw [hB, Int.toNat_natCast, Int.toNat_natCast, if_neg (show ¬ part = 0 by omega)], o⟩
        · refine Gs_iload p26_129 rfl rfl ?_
          refine Gs_iload p26_131 rfl rfl ?_
          refine Gs_idiv p26_133 (by omega) (by omega) (by omega) (by omega) ?_
          refine Gs_goto (tgt := 142) p26_134 (by rfl) ?_
          refine Gs_iret p26_142 rfl ⟨_, rfl, ?_⟩
          first
            | exact ⟨by unfold raA; rw [hB, Int.toNat_natCast, Int.toNat_natCast, if_pos (show part = 0 by omega)], o⟩
            | exact ⟨by unfold raA; rw [hB, Int.toNat_natCast, Int.toNat_natCast, if_neg (show ¬ part = 0 by omega)], o⟩
      · refine Gs_iconst p26_122 ?_
        refine Gs_iret p26_123 rfl ⟨_, rfl, ?_⟩
        exfalso
        omega
  · rw [vA_sA]
    show _ = (if cg s 14 c 0 = k then (1 : Int) else 0)
    by_cases q : k = cg s 14 c 0
    · rw [if_pos ⟨rfl, q⟩, if_pos q.symm]
    · rw [if_neg (fun r => q r.2), if_neg (fun r => q r.symm), cF_A, if_pos ⟨rfl, k0, by omega⟩]
