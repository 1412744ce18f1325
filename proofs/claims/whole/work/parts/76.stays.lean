/-! stays -/
theorem ansK_fin {R : Int → Int} {n : Int} {lg : Int → Int} {hot last F k : Int} {b : Nat → Int} (iv : Inv R n.toNat lg hot last (5 ^ n.toNat) F b) (ho : 1 ≤ hot) (n1 : 1 ≤ n) (n6 : n ≤ 6) : (F = 1000000 → ansK (kpA R n.toNat lg hot last (n.toNat + 1) 0) n k = -4) ∧ (¬ F = 1000000 → k = -1 → ansK (kpA R n.toNat lg hot last (n.toNat + 1) 0) n k = F) ∧ (¬ F = 1000000 → 0 ≤ k → k < n → ansK (kpA R n.toNat lg hot last (n.toNat + 1) 0) n k = dm (b k.toNat)) ∧ (¬ F = 1000000 → 0 ≤ k → ¬ k < n → ansK (kpA R n.toNat lg hot last (n.toNat + 1) 0) n k = -4) ∧ (F < 1000000 ↔ (kpA R n.toNat lg hot last (n.toNat + 1) 0).isSome = true) := by
  rcases iv.fin ho with ⟨h1, h2⟩ | ⟨h1, h2, p, h3, h4⟩
  · rw [h2]
    exact ⟨fun _ => rfl, fun h => absurd h1 h, fun h => absurd h1 h, fun h => absurd h1 h, ⟨fun h => by omega, fun h => by cases h⟩⟩
  · rw [h3]
    refine ⟨fun h => by omega, fun _ hk => ?_, fun _ k0 k1 => ?_, fun _ k0 k1 => ?_, ⟨fun _ => rfl, fun _ => by omega⟩⟩
    · show (if k = -1 then ((F.toNat : Nat) : Int) else _) = F
      rw [if_pos hk]; omega
    · show (if k = -1 then ((F.toNat : Nat) : Int) else if k < n then p k.toNat else -4) = _
      rw [if_neg (by omega), if_pos k1]
      exact h4 _ (by omega)
    · show (if k = -1 then ((F.toNat : Nat) : Int) else if k < n then p k.toNat else -4) = _
      rw [if_neg (by omega), if_neg k1]
set_option maxHeartbeats 1000000 in
set_option maxRecDepth 4000 in
theorem m_stays {X : vX} {s : St} {c n k : Int} (hT : MT s) (hm : MC s 98 (vA s 96 2)) (c0 : 0 ≤ c) (c1 : c < vA s 96 2) (n1 : 1 ≤ n) (n6 : n ≤ 6) (gk : rg k) (hk : -1 ≤ k) (c2 : 0 < vA s 98 c) : OkI X 4 180 [.ref 95, .int (iI c), .int (iI n), .int (iI k)] s (fun z t => z = ansK (kpA (fun x => rnM s (vA s 98 32 + x)) n.toNat (fun x => vA s 98 (8 + 4 * c + x)) (vA s 98 (0 + c)) (vA s 98 (24 + c)) (n.toNat + 1) 0) n k ∧ MFr s t) := by
  refine Ok.of (r := vm_m180) (ls := [some (.ref 95), some (.int (iI c)), some (.int (iI n)), some (.int (iI k)), none]) rfl (Nat.le_of_ble_eq_true rfl) rfl (fun d hd => ?_)
  obtain ⟨x1, x2, x3, x4, x5, x6, x7, x8⟩ := id hT
  have e98 : ∀ z, vA (cpS s 98 (8 + 4 * c) 106 0 4) 98 z = vA s 98 z := fun z => by rw [cpS_A, if_neg (by omega)]
  have e96 : ∀ z, vA (cpS s 98 (8 + 4 * c) 106 0 4) 96 z = vA s 96 z := fun z => by rw [cpS_A, if_neg (by omega)]
  have hgb : ∀ x, 0 ≤ x → x < 4 → 0 ≤ vA s 98 (8 + 4 * c + x) ∧ vA s 98 (8 + 4 * c + x) ≤ 200 := fun x a b => by
    have := (hm.2.2.2 c c0 c1).2.2.2 x a b
    omega
  have ho : 1 ≤ vA s 98 (0 + c) := by rw [Int.zero_add]; omega
  have B := c_keeps (X := X) (s := cpS s 98 (8 + 4 * c) 106 0 4) (c := c) (n := n) (lg := (fun x => vA s 98 (8 + 4 * c + x))) (hT.cong e96) (by rw [e96]; exact hm.cong e98) c0 (by rw [e96]; exact c1) n1 n6 (by rw [e98]; exact ho) (fun x a b => by rw [cpS_A, if_pos ⟨rfl, a, by omega⟩]; congr 1; omega) hgb
  rw [show (fun x => rnM (cpS s 98 (8 + 4 * c) 106 0 4) (vA (cpS s 98 (8 + 4 * c) 106 0 4) 98 32 + x)) = (fun x => rnM s (vA s 98 32 + x)) from funext (fun x => by rw [rnM_cong e96, e98]), e98, e98] at B
  refine Gs_aload_n p180_0 rfl rfl ?_
  refine Gs_iload_n p180_1 rfl rfl ?_
  refine Gs_callV1I p180_2 (by rfl) (by rfl) (by first | rfl | assumption | exact (show isTale _ from by assumption).1 | exact (show isCamp _ _ from by assumption).1 | exact (show isRow _ _ from by assumption).1) (Nat.le_of_ble_eq_true rfl) (by decide) (c_misCompany hT ⟨by omega, by omega⟩) (by omega) ?_
  refine Gs_ifb_eq (tgt := 25) p180_5 (by rfl) (fun h5 => ?_) (fun h5 => ?_)
  · refine Gs_iconst p180_25 ?_
    refine Gs_iret p180_26 rfl ⟨_, rfl, ?_⟩
    exfalso; omega
  · refine Gs_iload_n p180_8 rfl rfl ?_
    refine Gs_i2l p180_9 (by first | assumption | exact ⟨by omega, by omega⟩ | (split <;> exact ⟨by omega, by omega⟩)) ?_
    refine Gs_lconst (z := 1) p180_10 (by decide) ?_
    refine Gs_ldc2 (z := (6)) p180_11 (by decide) ?_
    refine Gs_callS3I p180_14 (by rfl) (Nat.le_of_ble_eq_true rfl) (by decide) (c_in ⟨by omega, by omega⟩ ⟨by omega, by omega⟩ ⟨by omega, by omega⟩) (by omega) ?_
    refine Gs_ifb_eq (tgt := 25) p180_17 (by rfl) (fun h17 => ?_) (fun h17 => ?_)
    · refine Gs_iconst p180_25 ?_
      refine Gs_iret p180_26 rfl ⟨_, rfl, ?_⟩
      exfalso; omega
    · refine Gs_iload_n p180_20 rfl rfl ?_
      refine Gs_iconst p180_21 ?_
      refine Gs_icmp_ge (tgt := 27) p180_22 (by rfl) (by first | assumption | exact ⟨by omega, by omega⟩ | (split <;> exact ⟨by omega, by omega⟩)) (by first | assumption | exact ⟨by omega, by omega⟩ | (split <;> exact ⟨by omega, by omega⟩)) (fun h22 => ?_) (fun h22 => ?_)
      · refine Gs_aload_n p180_27 rfl rfl ?_
        refine Gs_iload_n p180_28 rfl rfl ?_
        refine Gs_callV1I p180_29 (by rfl) (by rfl) (by first | rfl | assumption | exact (show isTale _ from by assumption).1 | exact (show isCamp _ _ from by assumption).1 | exact (show isRow _ _ from by assumption).1) (Nat.le_of_ble_eq_true rfl) (by decide) (c_misIn hm c0 (by omega)) (by omega) ?_
        refine Gs_ifb_ne (tgt := 38) p180_32 (by rfl) (fun h32 => ?_) (fun h32 => ?_)
        · refine Gs_aload_n p180_38 rfl rfl ?_
          refine Gs_iload_n p180_39 rfl rfl ?_
          refine Gs_callV1W p180_40 (by rfl) (by rfl) (by first | rfl | assumption | exact (show isTale _ from by assumption).1 | exact (show isCamp _ _ from by assumption).1 | exact (show isRow _ _ from by assumption).1) (Nat.le_of_ble_eq_true rfl) (by decide) (c_layLogs c0 (by omega)) (by omega) ?_
          refine Gs_aload_n p180_43 rfl rfl ?_
          refine Gs_iload_n p180_44 rfl rfl ?_
          refine Gs_iload_n p180_45 rfl rfl ?_
          refine Gs_callV2i p180_46 (by rfl) (by rfl) (by rfl) (Nat.le_of_ble_eq_true rfl) (by decide) (B) (by omega) (fun z46 s46 h46 => ?_)
          have Fb := h46.1.F
          have fin := ansK_fin (k := k) h46.1 ho n1 n6
          have fr : MFr s s46 := ⟨fun a z h => (h46.2.1 a z (by omega) (by omega) (by omega)).trans (by rw [cpS_A, if_neg (by omega)]), fun a f => h46.2.2 a f⟩
          refine Gs_ist4 p180_49 (by first | rfl | assumption) ?_
          refine Gs_iload p180_51 rfl rfl ?_
          refine Gs_ldc (z := (1000000)) p180_53 (by decide) (by decide) ?_
          refine Gs_icmp_eq (tgt := 63) p180_55 (by rfl) (by first | assumption | exact ⟨by omega, by omega⟩ | (split <;> exact ⟨by omega, by omega⟩)) (by first | assumption | exact ⟨by omega, by omega⟩ | (split <;> exact ⟨by omega, by omega⟩)) (fun h55 => ?_) (fun h55 => ?_)
          · refine Gs_iload p180_63 rfl rfl ?_
            refine Gs_ldc (z := (1000000)) p180_65 (by decide) (by decide) ?_
            refine Gs_icmp_ne (tgt := 75) p180_67 (by rfl) (by first | assumption | exact ⟨by omega, by omega⟩ | (split <;> exact ⟨by omega, by omega⟩)) (by first | assumption | exact ⟨by omega, by omega⟩ | (split <;> exact ⟨by omega, by omega⟩)) (fun h67 => ?_) (fun h67 => ?_)
            · refine Gs_iload p180_75 rfl rfl ?_
              refine Gs_iret p180_77 rfl ⟨_, rfl, ?_⟩
              first
                | exact ⟨(fin.1 (by omega)).symm, fr⟩
                | exact ⟨(fin.2.1 (by omega) (by omega)).symm, fr⟩
                | (exfalso; omega)
            · refine Gs_bipush p180_70 (by decide) ?_
              refine Gs_goto (tgt := 77) p180_72 (by rfl) ?_
              refine Gs_iret p180_77 rfl ⟨_, rfl, ?_⟩
              first
                | exact ⟨(fin.1 (by omega)).symm, fr⟩
                | exact ⟨(fin.2.1 (by omega) (by omega)).symm, fr⟩
                | (exfalso; omega)
          · refine Gs_iload_n p180_58 rfl rfl ?_
            refine Gs_iconst p180_59 ?_
            refine Gs_icmp_ne (tgt := 78) p180_60 (by rfl) (by first | assumption | exact ⟨by omega, by omega⟩ | (split <;> exact ⟨by omega, by omega⟩)) (by first | assumption | exact ⟨by omega, by omega⟩ | (split <;> exact ⟨by omega, by omega⟩)) (fun h60 => ?_) (fun h60 => ?_)
            · refine Gs_iload_n p180_78 rfl rfl ?_
              refine Gs_iload_n p180_79 rfl rfl ?_
              refine Gs_icmp_ge (tgt := 102) p180_80 (by rfl) (by first | assumption | exact ⟨by omega, by omega⟩ | (split <;> exact ⟨by omega, by omega⟩)) (by first | assumption | exact ⟨by omega, by omega⟩ | (split <;> exact ⟨by omega, by omega⟩)) (fun h80 => ?_) (fun h80 => ?_)
              · refine Gs_bipush p180_102 (by decide) ?_
                refine Gs_iret p180_104 rfl ⟨_, rfl, ?_⟩
                first
                  | (rw [if_pos (by omega)] at fb; exact ⟨fb.symm, fr⟩)
                  | (rw [if_neg (by omega)] at fb; exact ⟨fb.symm, fr⟩)
                  | exact ⟨(fin.2.2.2.1 (by omega) (by omega) (by omega)).symm, fr⟩
              · have bk := (Fb.resolve_left (by omega)).2.2 k.toNat (by omega)
                have bk : 0 ≤ vA s46 105 ((k.toNat : Nat) : Int) ∧ vA s46 105 ((k.toNat : Nat) : Int) < 5 := bk
                rw [show ((k.toNat : Nat) : Int) = k by omega] at bk
                have fb := fin.2.2.1 (by omega) (by omega) (by omega)
                have fb : ansK (kpA (fun x => rnM s (vA s 98 32 + x)) n.toNat (fun x => vA s 98 (8 + 4 * c + x)) (vA s 98 (0 + c)) (vA s 98 (24 + c)) (n.toNat + 1) 0) n k = dm (vA s46 105 ((k.toNat : Nat) : Int)) := fb
                rw [show ((k.toNat : Nat) : Int) = k by omega, dm] at fb
                refine Gs_aload_n p180_83 rfl rfl ?_
                refine Gs_getR p180_84 (by first | rfl | assumption | exact (show isTale _ from by assumption).1 | exact (show isCamp _ _ from by assumption).1 | exact (show isRow _ _ from by assumption).1) (by rfl) ?_
                refine Gs_iload_n p180_87 rfl rfl ?_
                refine Gs_iald p180_88 (by first | rfl | assumption | exact (show isTale _ from by assumption).1 | exact (show isCamp _ _ from by assumption).1 | exact (show isRow _ _ from by assumption).1) (by omega) (by omega) (by omega) ?_
                refine Gs_iconst p180_89 ?_
                refine Gs_icmp_ge (tgt := 102) p180_90 (by rfl) (by first | assumption | exact ⟨by omega, by omega⟩ | (split <;> exact ⟨by omega, by omega⟩)) (by first | assumption | exact ⟨by omega, by omega⟩ | (split <;> exact ⟨by omega, by omega⟩)) (fun h90 => ?_) (fun h90 => ?_)
                · refine Gs_bipush p180_102 (by decide) ?_
                  refine Gs_iret p180_104 rfl ⟨_, rfl, ?_⟩
                  first
                    | (rw [if_pos (by omega)] at fb; exact ⟨fb.symm, fr⟩)
                    | (rw [if_neg (by omega)] at fb; exact ⟨fb.symm, fr⟩)
                    | exact ⟨(fin.2.2.2.1 (by omega) (by omega) (by omega)).symm, fr⟩
                · refine Gs_aload_n p180_93 rfl rfl ?_
                  refine Gs_getR p180_94 (by first | rfl | assumption | exact (show isTale _ from by assumption).1 | exact (show isCamp _ _ from by assumption).1 | exact (show isRow _ _ from by assumption).1) (by rfl) ?_
                  refine Gs_iload_n p180_97 rfl rfl ?_
                  refine Gs_iald p180_98 (by first | rfl | assumption | exact (show isTale _ from by assumption).1 | exact (show isCamp _ _ from by assumption).1 | exact (show isRow _ _ from by assumption).1) (by omega) (by omega) (by omega) ?_
                  refine Gs_goto (tgt := 104) p180_99 (by rfl) ?_
                  refine Gs_iret p180_104 rfl ⟨_, rfl, ?_⟩
                  first
                    | (rw [if_pos (by omega)] at fb; exact ⟨fb.symm, fr⟩)
                    | (rw [if_neg (by omega)] at fb; exact ⟨fb.symm, fr⟩)
                    | exact ⟨(fin.2.2.2.1 (by omega) (by omega) (by omega)).symm, fr⟩
            · refine Gs_iload p180_63 rfl rfl ?_
              refine Gs_ldc (z := (1000000)) p180_65 (by decide) (by decide) ?_
              refine Gs_icmp_ne (tgt := 75) p180_67 (by rfl) (by first | assumption | exact ⟨by omega, by omega⟩ | (split <;> exact ⟨by omega, by omega⟩)) (by first | assumption | exact ⟨by omega, by omega⟩ | (split <;> exact ⟨by omega, by omega⟩)) (fun h67 => ?_) (fun h67 => ?_)
              · refine Gs_iload p180_75 rfl rfl ?_
                refine Gs_iret p180_77 rfl ⟨_, rfl, ?_⟩
                first
                  | exact ⟨(fin.1 (by omega)).symm, fr⟩
                  | exact ⟨(fin.2.1 (by omega) (by omega)).symm, fr⟩
                  | (exfalso; omega)
              · refine Gs_bipush p180_70 (by decide) ?_
                refine Gs_goto (tgt := 77) p180_72 (by rfl) ?_
                refine Gs_iret p180_77 rfl ⟨_, rfl, ?_⟩
                first
                  | exact ⟨(fin.1 (by omega)).symm, fr⟩
                  | exact ⟨(fin.2.1 (by omega) (by omega)).symm, fr⟩
                  | (exfalso; omega)
        · refine Gs_bipush p180_35 (by decide) ?_
          refine Gs_iret p180_37 rfl ⟨_, rfl, ?_⟩
          exfalso; omega
      · refine Gs_iconst p180_25 ?_
        refine Gs_iret p180_26 rfl ⟨_, rfl, ?_⟩
        exfalso; omega

set_option maxHeartbeats 1000000 in
set_option maxRecDepth 4000 in
theorem m_stays_no {X : vX} {s : St} {c n k : Int} (hT : MT s) (hm : MC s 98 (vA s 96 2)) (gc : rg c) (gn : rg n) (gk : rg k) (hno : ¬ (((0 ≤ c ∧ c < vA s 96 2) ∧ (1 ≤ n ∧ n ≤ 6) ∧ -1 ≤ k) ∧ 0 < vA s 98 c)) : OkI X 4 180 [.ref 95, .int (iI c), .int (iI n), .int (iI k)] s (Is1 (if ((0 ≤ c ∧ c < vA s 96 2) ∧ (1 ≤ n ∧ n ≤ 6) ∧ -1 ≤ k) then -2 else -1) s) := by
  refine Ok.of (r := vm_m180) (ls := [some (.ref 95), some (.int (iI c)), some (.int (iI n)), some (.int (iI k)), none]) rfl (Nat.le_of_ble_eq_true rfl) rfl (fun d hd => ?_)
  obtain ⟨x1, x2, x3, x4, x5, x6, x7, x8⟩ := id hT
  refine Gs_aload_n p180_0 rfl rfl ?_
  refine Gs_iload_n p180_1 rfl rfl ?_
  refine Gs_callV1I p180_2 (by rfl) (by rfl) (by first | rfl | assumption | exact (show isTale _ from by assumption).1 | exact (show isCamp _ _ from by assumption).1 | exact (show isRow _ _ from by assumption).1) (Nat.le_of_ble_eq_true rfl) (by decide) (c_misCompany hT gc) (by omega) ?_
  refine Gs_ifb_eq (tgt := 25) p180_5 (by rfl) (fun h5 => ?_) (fun h5 => ?_)
  · refine Gs_iconst p180_25 ?_
    refine Gs_iret p180_26 rfl ⟨_, rfl, ?_⟩
    refine ⟨?_, rfl⟩
    first | (rw [if_neg (by omega)]; done) | (rw [if_pos (by omega)]; done)
  · refine Gs_iload_n p180_8 rfl rfl ?_
    refine Gs_i2l p180_9 (by first | assumption | exact ⟨by omega, by omega⟩ | (split <;> exact ⟨by omega, by omega⟩)) ?_
    refine Gs_lconst (z := 1) p180_10 (by decide) ?_
    refine Gs_ldc2 (z := (6)) p180_11 (by decide) ?_
    refine Gs_callS3I p180_14 (by rfl) (Nat.le_of_ble_eq_true rfl) (by decide) (c_in (rg_L gn) ⟨by omega, by omega⟩ ⟨by omega, by omega⟩) (by omega) ?_
    refine Gs_ifb_eq (tgt := 25) p180_17 (by rfl) (fun h17 => ?_) (fun h17 => ?_)
    · refine Gs_iconst p180_25 ?_
      refine Gs_iret p180_26 rfl ⟨_, rfl, ?_⟩
      refine ⟨?_, rfl⟩
      first | (rw [if_neg (by omega)]; done) | (rw [if_pos (by omega)]; done)
    · refine Gs_iload_n p180_20 rfl rfl ?_
      refine Gs_iconst p180_21 ?_
      refine Gs_icmp_ge (tgt := 27) p180_22 (by rfl) (by first | assumption | exact ⟨by omega, by omega⟩ | (split <;> exact ⟨by omega, by omega⟩)) (by first | assumption | exact ⟨by omega, by omega⟩ | (split <;> exact ⟨by omega, by omega⟩)) (fun h22 => ?_) (fun h22 => ?_)
      · refine Gs_aload_n p180_27 rfl rfl ?_
        refine Gs_iload_n p180_28 rfl rfl ?_
        refine Gs_callV1I p180_29 (by rfl) (by rfl) (by first | rfl | assumption | exact (show isTale _ from by assumption).1 | exact (show isCamp _ _ from by assumption).1 | exact (show isRow _ _ from by assumption).1) (Nat.le_of_ble_eq_true rfl) (by decide) (c_misIn hm (by omega) (by omega)) (by omega) ?_
        refine Gs_ifb_ne (tgt := 38) p180_32 (by rfl) (fun h32 => ?_) (fun h32 => ?_)
        · exfalso; omega
        · refine Gs_bipush p180_35 (by decide) ?_
          refine Gs_iret p180_37 rfl ⟨_, rfl, ?_⟩
          refine ⟨?_, rfl⟩
          first | (rw [if_neg (by omega)]; done) | (rw [if_pos (by omega)]; done)
      · refine Gs_iconst p180_25 ?_
        refine Gs_iret p180_26 rfl ⟨_, rfl, ?_⟩
        refine ⟨?_, rfl⟩
        first | (rw [if_neg (by omega)]; done) | (rw [if_pos (by omega)]; done)

theorem T_stays {X : vX} {K : Int} {s : St} (hR : Rel K s) (hK : K < 512) {x1 x2 x3 : Int} (g1 : rg x1) (g2 : rg x2) (g3 : rg x3) : Both X K s 107 180 [.int (iI x1), .int (iI x2), .int (iI x3)] := by
  obtain ⟨h0, h1, h2, h3, h4, h5, h6⟩ := id hR
  by_cases c : ((0 ≤ x1 ∧ x1 < vA s 96 2) ∧ (1 ≤ x2 ∧ x2 ≤ 6) ∧ -1 ≤ x3) ∧ 1 ≤ cg s 14 x1 0
  · obtain ⟨⟨c1, c2, c3⟩, c4⟩ := c
    obtain ⟨z, t, ⟨ez, o⟩, A⟩ := (k_stays (X := X) h3.1 h4.1 c1.1 c1.2 c2.1 c2.2 g3 c3 c4).ex
    have e96 : ∀ z, vA t 96 z = vA s 96 z := fun z => o.1 96 z (by decide)
    have e98 : ∀ z, vA t 98 z = vA s 98 z := fun z => o.1 98 z (by decide)
    have v0 := h4.v0 c1.1 c1.2 (w := 0) (by omega) (by omega)
    have v6 := h4.v0 c1.1 c1.2 (w := 6) (by omega) (by omega)
    rw [mi_0] at v0
    rw [mi_6] at v6
    obtain ⟨z', t', ⟨ez', o'⟩, B⟩ := (m_stays (X := X) (s := t) (c := x1) (n := x2) (k := x3) (hR.MT.cong e96) (by rw [e96]; exact h4.mc.cong e98) c1.1 (by rw [e96]; exact c1.2) c2.1 c2.2 g3 c3 (by rw [e98]; omega)).ex
    refine Both.n hR A B (by decide) (by decide) ?_ ⟨fun a ha z => ?_, fun a k ha => ?_⟩
    · rw [ez, ez', show (fun x => rnM t (vA t 98 32 + x)) = (fun x => rnI s 5 (vF s 14 2 + x)) from funext (fun x => by rw [rnM_cong e96, e98, h3.rn, show vA s 98 32 = vF s 14 2 from h4.2.1.symm]), e98, e98, Int.zero_add, ← v0, ← v6, kpA_cong (lg' := fun x => cg s 14 x1 (2 + x)) (fun x a b => by show vA t 98 (8 + 4 * x1 + x) = cg s 14 x1 (2 + x); rw [e98, h4.v0 c1.1 c1.2 (by omega) (by omega), mi_2 a b])]
    · rw [o'.1 a z (Nat.lt_of_not_le (fun e => ha (by unfold scr; omega))), o.1 a z (by unfold scr at ha; omega)]
    · rw [o'.2, o.2 a k (by have := ha.1; unfold scr at this; omega)]
  · refine Both.q hR (k_stays_no h4.1 g1 g2 g3 c) (m_stays_no hR.MT h4.mc g1 g2 g3 (fun q => c ⟨q.1, ?_⟩)) (by decide) (by decide) rfl ?_ (Kept.rfl' s)
    · rw [h4.v0 q.1.1.1 q.1.1.2 (by omega) (by omega), mi_0]; omega
    · split <;> exact ⟨by omega, by omega⟩