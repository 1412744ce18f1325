/-! can -/
set_option maxHeartbeats 1000000 in
set_option maxRecDepth 4000 in
theorem c_oneStep {X : vX} {s : St} {t : Nat} (ht : isTale t) (hT : TaleOk s t) (hcl : ∀ l w, 0 ≤ l → l < vF s t 4 → 0 ≤ cfI s t l w ∧ cfI s t l w < vF s t 4) {b : Int} : OkI X 4 82 [.ref t, .int (iI b)] s (Is1 (accB (cfI s t) b 0 (4 * vF s t 4).toNat) s) := by
  refine Ok.of (r := vm_m82) (ls := [some (.ref t), some (.int (iI b)), none, none, none]) rfl (Nat.le_of_ble_eq_true rfl) rfl (fun d hd => ?_)
  have hy := ht.1
  obtain ⟨k1, k2, k3, k4, k5, k6, k7⟩ := id hT
  refine Gs_iconst p82_0 ?_
  refine Gs_ist2 p82_1 (by first | rfl | assumption) ?_
  refine Gs_iconst p82_2 ?_
  refine Gs_ist3 p82_3 (by first | rfl | assumption) ?_
  refine dn (n := (vF s t 4)) (P := fun i => ∀ b4 : Option Value, Gs X d 82 4 [some (.ref t), some (.int (iI b)), some (.int (iI (accB (cfI s t) b 0 (4 * i).toNat))), some (.int (iI i)), b4] [] (s) (fun vv yy => ∃ zz : Int, vv = some (.int (iI zz)) ∧ (Is1 (accB (cfI s t) b 0 (4 * vF s t 4).toNat) s) zz yy)) (by omega) (fun i hi hin ih => ?_) ?_ none
  · show ∀ b4 : Option Value, Gs X d 82 4 [some (.ref t), some (.int (iI b)), some (.int (iI (accB (cfI s t) b 0 (4 * i).toNat))), some (.int (iI i)), b4] [] (s) _
    intro b4
    refine Gs_iload_n p82_4 rfl rfl ?_
    refine Gs_aload_n p82_5 rfl rfl ?_
    refine Gs_getI p82_6 (by first | rfl | assumption | exact (show isTale _ from by assumption).1 | exact (show isCamp _ _ from by assumption).1 | exact (show isRow _ _ from by assumption).1) (by rfl) ?_
    refine Gs_icmp_ge (tgt := 54) p82_9 (by rfl) (by first | assumption | exact ⟨by omega, by omega⟩ | (split <;> exact ⟨by omega, by omega⟩)) (by first | assumption | exact ⟨by omega, by omega⟩ | (split <;> exact ⟨by omega, by omega⟩)) (fun hc9 => absurd ‹_› (by first | omega | assumption)) (fun hc9 => ?_)
    refine Gs_iconst p82_12 ?_
    refine Gs_ist4 p82_13 (by first | rfl | assumption) ?_
    have E0 : (4 * i).toNat = (4 * i + 0).toNat := by rw [Int.add_zero]
    rw [E0]
    refine dn (n := 4) (P := fun j => Gs X d 82 15 [some (.ref t), some (.int (iI b)), some (.int (iI (accB (cfI s t) b 0 (4 * i + j).toNat))), some (.int (iI i)), some (.int (iI j))] [] (s) _) (by omega) (fun j hj hjn ih2 => ?_) ?_
    · show Gs X d 82 15 [some (.ref t), some (.int (iI b)), some (.int (iI (accB (cfI s t) b 0 (4 * i + j).toNat))), some (.int (iI i)), some (.int (iI j))] [] (s) _
      have fb := hcl i j hi (by omega)
      have bb := biI_b b i
      refine Gs_iload p82_15 rfl rfl ?_
      refine Gs_iconst p82_17 ?_
      refine Gs_icmp_ge (tgt := 48) p82_18 (by rfl) (by first | assumption | exact ⟨by omega, by omega⟩ | (split <;> exact ⟨by omega, by omega⟩)) (by first | assumption | exact ⟨by omega, by omega⟩ | (split <;> exact ⟨by omega, by omega⟩)) (fun hc18 => absurd ‹_› (by first | omega | assumption)) (fun hc18 => ?_)
      refine Gs_iload_n p82_21 rfl rfl ?_
      refine Gs_iload_n p82_22 rfl rfl ?_
      refine Gs_ishr p82_23 (iI_of _).symm ?_
      refine Gs_iconst p82_24 ?_
      refine Gs_iand p82_25 (biI_e hi (by omega)) ?_
      refine Gs_iconst p82_26 ?_
      refine Gs_icmp_ne (tgt := 48) p82_27 (by rfl) (by first | assumption | exact ⟨by omega, by omega⟩ | (split <;> exact ⟨by omega, by omega⟩)) (by first | assumption | exact ⟨by omega, by omega⟩ | (split <;> exact ⟨by omega, by omega⟩)) (fun h27 => ?_) (fun h27 => ?_)
      · have hb : ¬ bq (iI b) i.toNat = true := fun e => by rw [← biI_t] at e; omega
        have e4 := accB_skip (C := cfI s t) (had := b) (a := 0) hi hb (4 - j).toNat (by omega)
        rw [show (4 : Int) - ((4 - j).toNat : Int) = j by omega] at e4
        rw [e4, show 4 * i + 4 = 4 * (i + 1) by omega]
        refine Gs_iinc3 (b53 := none) p82_48 (by first | rfl | assumption) ?_
        refine Gs_goto (tgt := 4) p82_51 (by rfl) ?_
        exact ih _
      · refine Gs_iload_n p82_30 rfl rfl ?_
        refine Gs_iconst p82_31 ?_
        refine Gs_aload_n p82_32 rfl rfl ?_
        refine Gs_iload_n p82_33 rfl rfl ?_
        refine Gs_iload p82_34 rfl rfl ?_
        refine Gs_callV2I p82_36 (by rfl) (by rfl) ht.1 (Nat.le_of_ble_eq_true rfl) (by decide) (c_comingFrom ht hT ⟨by omega, by omega⟩ ⟨by omega, by omega⟩) (by omega) ?_
        refine Gs_ishl p82_39 (shI_e _) ?_
        refine Gs_ior p82_40 (orI_e _ _) ?_
        refine Gs_ist2 p82_41 (by first | rfl | assumption) ?_
        refine Gs_iinc4 (b54 := none) p82_42 (by first | rfl | assumption) ?_
        refine Gs_goto (tgt := 15) p82_45 (by rfl) ?_
        have hb : bq (iI b) i.toNat = true := biI_t.mp (by omega)
        rw [accB_s hi hj hjn, if_pos hb] at ih2
        exact ih2
    · show Gs X d 82 15 [some (.ref t), some (.int (iI b)), some (.int (iI (accB (cfI s t) b 0 (4 * i + (4)).toNat))), some (.int (iI i)), some (.int (iI (4)))] [] (s) _
      refine Gs_iload p82_15 rfl rfl ?_
      refine Gs_iconst p82_17 ?_
      refine Gs_icmp_ge (tgt := 48) p82_18 (by rfl) (by first | assumption | exact ⟨by omega, by omega⟩ | (split <;> exact ⟨by omega, by omega⟩)) (by first | assumption | exact ⟨by omega, by omega⟩ | (split <;> exact ⟨by omega, by omega⟩)) (fun hc18 => ?_) (fun hc18 => absurd ‹_› (by first | omega | assumption))
      refine Gs_iinc3 (b53 := none) p82_48 (by first | rfl | assumption) ?_
      refine Gs_goto (tgt := 4) p82_51 (by rfl) ?_
      rw [show 4 * i + 4 = 4 * (i + 1) by omega]
      exact ih _
  · show ∀ b4 : Option Value, Gs X d 82 4 [some (.ref t), some (.int (iI b)), some (.int (iI (accB (cfI s t) b 0 (4 * ((vF s t 4))).toNat))), some (.int (iI ((vF s t 4)))), b4] [] (s) _
    intro b4
    refine Gs_iload_n p82_4 rfl rfl ?_
    refine Gs_aload_n p82_5 rfl rfl ?_
    refine Gs_getI p82_6 (by first | rfl | assumption | exact (show isTale _ from by assumption).1 | exact (show isCamp _ _ from by assumption).1 | exact (show isRow _ _ from by assumption).1) (by rfl) ?_
    refine Gs_icmp_ge (tgt := 54) p82_9 (by rfl) (by first | assumption | exact ⟨by omega, by omega⟩ | (split <;> exact ⟨by omega, by omega⟩)) (by first | assumption | exact ⟨by omega, by omega⟩ | (split <;> exact ⟨by omega, by omega⟩)) (fun hc9 => ?_) (fun hc9 => absurd ‹_› (by first | omega | assumption))
    refine Gs_iload_n p82_54 rfl rfl ?_
    refine Gs_iret p82_55 rfl ⟨_, rfl, ?_⟩
    exact ⟨rfl, rfl⟩

set_option maxHeartbeats 1000000 in
set_option maxRecDepth 4000 in
theorem c_reached {X : vX} {s : St} {t : Nat} (ht : isTale t) (hT : TaleOk s t) (hcl : ∀ l w, 0 ≤ l → l < vF s t 4 → 0 ≤ cfI s t l w ∧ cfI s t l w < vF s t 4) {l : Int} (l0 : 0 ≤ l) (l1 : l < vF s t 4) : OkI X 5 81 [.ref t, .int (iI l)] s (Is1 (itB (cfI s t) (vF s t 4) (shI l) (vF s t 4 - 1).toNat) s) := by
  refine Ok.of (r := vm_m81) (ls := [some (.ref t), some (.int (iI l)), none, none]) rfl (Nat.le_of_ble_eq_true rfl) rfl (fun d hd => ?_)
  have hy := ht.1
  obtain ⟨k1, k2, k3, k4, k5, k6, k7⟩ := id hT
  refine Gs_iconst p81_0 ?_
  refine Gs_iload_n p81_1 rfl rfl ?_
  refine Gs_ishl p81_2 (shI_e _) ?_
  refine Gs_ist2 p81_3 (by first | rfl | assumption) ?_
  refine Gs_iconst p81_4 ?_
  refine Gs_ist3 p81_5 (by first | rfl | assumption) ?_
  refine dn (n := (vF s t 4 - 1)) (P := fun i => Gs X d 81 6 [some (.ref t), some (.int (iI l)), some (.int (iI (itB (cfI s t) (vF s t 4) (shI l) i.toNat))), some (.int (iI (1 + i)))] [] (s) _) (by omega) (fun i hi hin ih => ?_) ?_
  · show Gs X d 81 6 [some (.ref t), some (.int (iI l)), some (.int (iI (itB (cfI s t) (vF s t 4) (shI l) i.toNat))), some (.int (iI (1 + i)))] [] (s) _
    refine Gs_iload_n p81_6 rfl rfl ?_
    refine Gs_aload_n p81_7 rfl rfl ?_
    refine Gs_getI p81_8 (by first | rfl | assumption | exact (show isTale _ from by assumption).1 | exact (show isCamp _ _ from by assumption).1 | exact (show isRow _ _ from by assumption).1) (by rfl) ?_
    refine Gs_icmp_ge (tgt := 28) p81_11 (by rfl) (by first | assumption | exact ⟨by omega, by omega⟩ | (split <;> exact ⟨by omega, by omega⟩)) (by first | assumption | exact ⟨by omega, by omega⟩ | (split <;> exact ⟨by omega, by omega⟩)) (fun hc11 => absurd ‹_› (by first | omega | assumption)) (fun hc11 => ?_)
    refine Gs_iload_n p81_14 rfl rfl ?_
    refine Gs_aload_n p81_15 rfl rfl ?_
    refine Gs_iload_n p81_16 rfl rfl ?_
    refine Gs_callV1I p81_17 (by rfl) (by rfl) hy (Nat.le_of_ble_eq_true rfl) (by decide) (c_oneStep ht hT hcl) (by omega) ?_
    refine Gs_ior p81_20 (orI_e _ _) ?_
    refine Gs_ist2 p81_21 (by first | rfl | assumption) ?_
    refine Gs_iinc3 (b53 := none) p81_22 (by first | rfl | assumption) ?_
    refine Gs_goto (tgt := 6) p81_25 (by rfl) ?_
    rw [show 1 + (i + 1) = 1 + i + 1 by omega, show (i + 1).toNat = i.toNat + 1 by omega] at ih
    exact ih
  · show Gs X d 81 6 [some (.ref t), some (.int (iI l)), some (.int (iI (itB (cfI s t) (vF s t 4) (shI l) ((vF s t 4 - 1)).toNat))), some (.int (iI (1 + ((vF s t 4 - 1)))))] [] (s) _
    refine Gs_iload_n p81_6 rfl rfl ?_
    refine Gs_aload_n p81_7 rfl rfl ?_
    refine Gs_getI p81_8 (by first | rfl | assumption | exact (show isTale _ from by assumption).1 | exact (show isCamp _ _ from by assumption).1 | exact (show isRow _ _ from by assumption).1) (by rfl) ?_
    refine Gs_icmp_ge (tgt := 28) p81_11 (by rfl) (by first | assumption | exact ⟨by omega, by omega⟩ | (split <;> exact ⟨by omega, by omega⟩)) (by first | assumption | exact ⟨by omega, by omega⟩ | (split <;> exact ⟨by omega, by omega⟩)) (fun hc11 => ?_) (fun hc11 => absurd ‹_› (by first | omega | assumption))
    refine Gs_iload_n p81_28 rfl rfl ?_
    refine Gs_iret p81_29 rfl ⟨_, rfl, ?_⟩
    exact ⟨rfl, rfl⟩

set_option maxHeartbeats 1000000 in
set_option maxRecDepth 4000 in
theorem k_can {X : vX} {s : St} {k n : Int} (hz : rg k) (hT : TaleOk s 5) (hcl : ∀ l w, 0 ≤ l → l < vF s 5 4 → 0 ≤ cfI s 5 l w ∧ cfI s 5 l w < vF s 5 4) (hC : CampOk s 14 n) (hl : 0 ≤ k → k < n → 1 ≤ cg s 14 k 0 → 0 ≤ cg s 14 k 1 ∧ cg s 14 k 1 < vF s 5 4) : OkI X 6 110 [.ref 0, .int (iI k)] s (Is1 (if 0 ≤ k ∧ k < n then (if 1 ≤ cg s 14 k 0 then itB (cfI s 5) (vF s 5 4) (shI (cg s 14 k 1)) (vF s 5 4 - 1).toNat else -2) else -1) s) := by
  refine Ok.of (r := vm_m110) (ls := [some (.ref 0), some (.int (iI k))]) rfl (Nat.le_of_ble_eq_true rfl) rfl (fun d hd => ?_)
  refine Gs_aload_n p110_0 rfl rfl ?_
  refine Gs_getR p110_1 (by first | rfl | assumption | exact (show isTale _ from by assumption).1 | exact (show isCamp _ _ from by assumption).1 | exact (show isRow _ _ from by assumption).1) (by rfl) ?_
  refine Gs_iload_n p110_4 rfl rfl ?_
  refine Gs_callV1I p110_5 (by rfl) (by rfl) (by first | rfl | assumption | exact (show isTale _ from by assumption).1 | exact (show isCamp _ _ from by assumption).1 | exact (show isRow _ _ from by assumption).1) (Nat.le_of_ble_eq_true rfl) (by decide) (c_isCompany camp14 hC hz) (by omega) ?_
  refine Gs_ifb_ne (tgt := 13) p110_8 (by rfl) (fun h8 => ?_) (fun h8 => ?_)
  · refine Gs_aload_n p110_13 rfl rfl ?_
    refine Gs_getR p110_14 (by first | rfl | assumption | exact (show isTale _ from by assumption).1 | exact (show isCamp _ _ from by assumption).1 | exact (show isRow _ _ from by assumption).1) (by rfl) ?_
    refine Gs_iload_n p110_17 rfl rfl ?_
    refine Gs_callV1I p110_18 (by rfl) (by rfl) (by first | rfl | assumption | exact (show isTale _ from by assumption).1 | exact (show isCamp _ _ from by assumption).1 | exact (show isRow _ _ from by assumption).1) (Nat.le_of_ble_eq_true rfl) (by decide) (c_isIn camp14 hC (by omega) (by omega)) (by omega) ?_
    refine Gs_ifb_eq (tgt := 43) p110_21 (by rfl) (fun h21 => ?_) (fun h21 => ?_)
    · refine Gs_bipush p110_43 (by decide) ?_
      refine Gs_iret p110_45 rfl ⟨_, rfl, ?_⟩
      first
        | (rw [if_pos (by omega), if_pos (by omega)]; exact ⟨rfl, rfl⟩)
        | (rw [if_pos (by omega), if_neg (by omega)]; exact ⟨rfl, rfl⟩)
        | (rw [if_neg (by omega)]; exact ⟨rfl, rfl⟩)
    · refine Gs_aload_n p110_24 rfl rfl ?_
      refine Gs_getR p110_25 (by first | rfl | assumption | exact (show isTale _ from by assumption).1 | exact (show isCamp _ _ from by assumption).1 | exact (show isRow _ _ from by assumption).1) (by rfl) ?_
      refine Gs_aload_n p110_28 rfl rfl ?_
      refine Gs_getR p110_29 (by first | rfl | assumption | exact (show isTale _ from by assumption).1 | exact (show isCamp _ _ from by assumption).1 | exact (show isRow _ _ from by assumption).1) (by rfl) ?_
      refine Gs_iload_n p110_32 rfl rfl ?_
      refine Gs_iconst p110_33 ?_
      refine Gs_callV2I p110_34 (by rfl) (by rfl) (by first | rfl | assumption | exact (show isTale _ from by assumption).1 | exact (show isCamp _ _ from by assumption).1 | exact (show isRow _ _ from by assumption).1) (Nat.le_of_ble_eq_true rfl) (by decide) (c_Cget camp14 hC (by omega) (by omega) (by omega) (by omega)) (by omega) ?_
      refine Gs_callV1I p110_37 (by rfl) (by rfl) (by first | rfl | assumption | exact (show isTale _ from by assumption).1 | exact (show isCamp _ _ from by assumption).1 | exact (show isRow _ _ from by assumption).1) (Nat.le_of_ble_eq_true rfl) (by decide) (c_reached tale5 hT hcl (hl (by omega) (by omega) (by omega)).1 (hl (by omega) (by omega) (by omega)).2) (by omega) ?_
      refine Gs_goto (tgt := 45) p110_40 (by rfl) ?_
      refine Gs_iret p110_45 rfl ⟨_, rfl, ?_⟩
      first
        | (rw [if_pos (by omega), if_pos (by omega)]; exact ⟨rfl, rfl⟩)
        | (rw [if_pos (by omega), if_neg (by omega)]; exact ⟨rfl, rfl⟩)
        | (rw [if_neg (by omega)]; exact ⟨rfl, rfl⟩)
  · refine Gs_iconst p110_11 ?_
    refine Gs_iret p110_12 rfl ⟨_, rfl, ?_⟩
    first
      | (rw [if_pos (by omega), if_pos (by omega)]; exact ⟨rfl, rfl⟩)
      | (rw [if_pos (by omega), if_neg (by omega)]; exact ⟨rfl, rfl⟩)
      | (rw [if_neg (by omega)]; exact ⟨rfl, rfl⟩)

set_option maxHeartbeats 1000000 in
set_option maxRecDepth 4000 in
theorem c_has {X : vX} {s : St} {b l : Int} (h0 : 0 ≤ l) (h1 : l < 32) : OkI X 0 129 [.int (iI b), .int (iI l)] s (Is1 (if bq (iI b) l.toNat = true then 1 else 0) s) := by
  refine Ok.of (r := vm_m129) (ls := [some (.int (iI b)), some (.int (iI l))]) rfl (Nat.le_of_ble_eq_true rfl) rfl (fun d hd => ?_)
  have bb := biI_b b l
  refine Gs_iload_n p129_0 rfl rfl ?_
  refine Gs_iload_n p129_1 rfl rfl ?_
  refine Gs_ishr p129_2 (iI_of _).symm ?_
  refine Gs_iconst p129_3 ?_
  refine Gs_iand p129_4 (biI_e h0 h1) ?_
  refine Gs_iconst p129_5 ?_
  refine Gs_icmp_ne (tgt := 13) p129_6 (by rfl) (by first | assumption | exact ⟨by omega, by omega⟩ | (split <;> exact ⟨by omega, by omega⟩)) (by first | assumption | exact ⟨by omega, by omega⟩ | (split <;> exact ⟨by omega, by omega⟩)) (fun h6 => ?_) (fun h6 => ?_)
  · refine Gs_iconst p129_13 ?_
    refine Gs_zret p129_14 rfl (by first | exact Or.inl rfl | exact Or.inr rfl | (split <;> first | exact Or.inl rfl | exact Or.inr rfl)) ⟨_, rfl, ?_⟩
    refine ⟨?_, rfl⟩
    first
      | (rw [if_pos (biI_t.mp (by omega))]; done)
      | (rw [if_neg (fun e => by rw [← biI_t] at e; omega)]; done)
  · refine Gs_iconst p129_9 ?_
    refine Gs_goto (tgt := 14) p129_10 (by rfl) ?_
    refine Gs_zret p129_14 rfl (by first | exact Or.inl rfl | exact Or.inr rfl | (split <;> first | exact Or.inl rfl | exact Or.inr rfl)) ⟨_, rfl, ?_⟩
    refine ⟨?_, rfl⟩
    first
      | (rw [if_pos (biI_t.mp (by omega))]; done)
      | (rw [if_neg (fun e => by rw [← biI_t] at e; omega)]; done)

set_option maxHeartbeats 2000000 in
theorem can_turn {X : vX} {s : St} {d : Nat} {c h : Int} {b4 b5 : Option Value} (hd : 3 ≤ d) (hT : MT s) (hcl : ∀ l w, 0 ≤ l → l < vA s 96 0 → 0 ≤ w → w < 4 → 0 ≤ cfM s l w ∧ cfM s l w < vA s 96 0) (t : Nat) (hh : rg h) (hn : ¬ itB (cfM s) (vA s 96 0) (shI (vA s 98 (4 + c))) t = h) (IH : ∀ b4 b5 : Option Value, Gs X d 187 34 [some (.ref 95), some (.int (iI c)), some (.int (iI (itB (cfM s) (vA s 96 0) (shI (vA s 98 (4 + c))) (t + 1)))), some (.int (iI (itB (cfM s) (vA s 96 0) (shI (vA s 98 (4 + c))) t))), b4, b5] [] s ((fun vv yy => ∃ zz : Int, vv = some (.int (iI zz)) ∧ (Is1 (itB (cfM s) (vA s 96 0) (shI (vA s 98 (4 + c))) (vA s 96 0 - 1).toNat) s) zz yy))) :
    Gs X d 187 34 [some (.ref 95), some (.int (iI c)), some (.int (iI (itB (cfM s) (vA s 96 0) (shI (vA s 98 (4 + c))) t))), some (.int (iI h)), b4, b5] [] s ((fun vv yy => ∃ zz : Int, vv = some (.int (iI zz)) ∧ (Is1 (itB (cfM s) (vA s 96 0) (shI (vA s 98 (4 + c))) (vA s 96 0 - 1).toNat) s) zz yy)) := by
  obtain ⟨a1, a2, a3, a4, a5, a6, a7, a8⟩ := id hT
  refine Gs_iload_n p187_34 rfl rfl ?_
  refine Gs_iload_n p187_35 rfl rfl ?_
  refine Gs_icmp_eq (tgt := 105) p187_36 (by rfl) (itB_rg (rg_of _) _) hh (fun h36 => absurd h36 hn) (fun h36 => ?_)
  refine Gs_iload_n p187_39 rfl rfl ?_
  refine Gs_ist3 p187_40 (by first | rfl | assumption) ?_
  refine Gs_iconst p187_41 ?_
  refine Gs_ist4 p187_42 (by first | rfl | assumption) ?_
  refine dn (n := (vA s 96 0)) (P := fun i => ∀ b5 : Option Value, Gs X d 187 44 [some (.ref 95), some (.int (iI c)), some (.int (iI (accB (cfM s) (itB (cfM s) (vA s 96 0) (shI (vA s 98 (4 + c))) t) (itB (cfM s) (vA s 96 0) (shI (vA s 98 (4 + c))) t) (4 * i).toNat))), some (.int (iI (itB (cfM s) (vA s 96 0) (shI (vA s 98 (4 + c))) t))), some (.int (iI i)), b5] [] (s) (fun vv yy => ∃ zz : Int, vv = some (.int (iI zz)) ∧ (Is1 (itB (cfM s) (vA s 96 0) (shI (vA s 98 (4 + c))) (vA s 96 0 - 1).toNat) s) zz yy)) (by omega) (fun i hi hin ih => ?_) ?_ _
  · show ∀ b5 : Option Value, Gs X d 187 44 [some (.ref 95), some (.int (iI c)), some (.int (iI (accB (cfM s) (itB (cfM s) (vA s 96 0) (shI (vA s 98 (4 + c))) t) (itB (cfM s) (vA s 96 0) (shI (vA s 98 (4 + c))) t) (4 * i).toNat))), some (.int (iI (itB (cfM s) (vA s 96 0) (shI (vA s 98 (4 + c))) t))), some (.int (iI i)), b5] [] (s) _
    intro b5
    refine Gs_iload p187_44 rfl rfl ?_
    refine Gs_aload_n p187_46 rfl rfl ?_
    refine Gs_getR p187_47 (by first | rfl | assumption | exact (show isTale _ from by assumption).1 | exact (show isCamp _ _ from by assumption).1 | exact (show isRow _ _ from by assumption).1) (by rfl) ?_
    refine Gs_iconst p187_50 ?_
    refine Gs_iald p187_51 (by first | rfl | assumption | exact (show isTale _ from by assumption).1 | exact (show isCamp _ _ from by assumption).1 | exact (show isRow _ _ from by assumption).1) (by omega) (by omega) (by omega) ?_
    refine Gs_icmp_ge (tgt := 102) p187_52 (by rfl) (by first | assumption | exact ⟨by omega, by omega⟩ | (split <;> exact ⟨by omega, by omega⟩)) (by first | assumption | exact ⟨by omega, by omega⟩ | (split <;> exact ⟨by omega, by omega⟩)) (fun hc52 => absurd ‹_› (by first | omega | assumption)) (fun hc52 => ?_)
    refine Gs_iconst p187_55 ?_
    refine Gs_ist5 p187_56 (by first | rfl | assumption) ?_
    have E0 : (4 * i).toNat = (4 * i + 0).toNat := by rw [Int.add_zero]
    rw [E0]
    refine dn (n := 4) (P := fun j => Gs X d 187 58 [some (.ref 95), some (.int (iI c)), some (.int (iI (accB (cfM s) (itB (cfM s) (vA s 96 0) (shI (vA s 98 (4 + c))) t) (itB (cfM s) (vA s 96 0) (shI (vA s 98 (4 + c))) t) (4 * i + j).toNat))), some (.int (iI (itB (cfM s) (vA s 96 0) (shI (vA s 98 (4 + c))) t))), some (.int (iI i)), some (.int (iI j))] [] (s) _) (by omega) (fun j hj hjn ih2 => ?_) ?_
    · show Gs X d 187 58 [some (.ref 95), some (.int (iI c)), some (.int (iI (accB (cfM s) (itB (cfM s) (vA s 96 0) (shI (vA s 98 (4 + c))) t) (itB (cfM s) (vA s 96 0) (shI (vA s 98 (4 + c))) t) (4 * i + j).toNat))), some (.int (iI (itB (cfM s) (vA s 96 0) (shI (vA s 98 (4 + c))) t))), some (.int (iI i)), some (.int (iI j))] [] (s) _
      have fb := hcl i j hi hin hj hjn
      refine Gs_iload p187_58 rfl rfl ?_
      refine Gs_iconst p187_60 ?_
      refine Gs_icmp_ge (tgt := 96) p187_61 (by rfl) (by first | assumption | exact ⟨by omega, by omega⟩ | (split <;> exact ⟨by omega, by omega⟩)) (by first | assumption | exact ⟨by omega, by omega⟩ | (split <;> exact ⟨by omega, by omega⟩)) (fun hc61 => absurd ‹_› (by first | omega | assumption)) (fun hc61 => ?_)
      refine Gs_iload_n p187_64 rfl rfl ?_
      refine Gs_iload_n p187_65 rfl rfl ?_
      refine Gs_iload p187_66 rfl rfl ?_
      refine Gs_callS2I p187_68 (by rfl) (Nat.le_of_ble_eq_true rfl) (by decide) (c_has hi (by omega)) (by omega) ?_
      refine Gs_ifb_eq (tgt := 87) p187_71 (by rfl) (fun h71 => ?_) (fun h71 => ?_)
      · refine Gs_iconst p187_87 ?_
        first | refine Gs_ior p187_88 (or0_e _) ?_ | refine Gs_ior p187_88 (orI_e _ _) ?_
        refine Gs_ist2 p187_89 (by first | rfl | assumption) ?_
        refine Gs_iinc5 (b55 := none) p187_90 (by first | rfl | assumption) ?_
        refine Gs_goto (tgt := 58) p187_93 (by rfl) ?_
        rw [accB_s hi hj hjn] at ih2
        first
          | (rw [if_pos (by assumption)] at ih2; exact ih2)
          | (rw [if_neg (by assumption)] at ih2; exact ih2)
      · refine Gs_iconst p187_74 ?_
        refine Gs_aload_n p187_75 rfl rfl ?_
        refine Gs_iload p187_76 rfl rfl ?_
        refine Gs_iload p187_78 rfl rfl ?_
        refine Gs_callV2I p187_80 (by rfl) (by rfl) (by first | rfl | assumption | exact (show isTale _ from by assumption).1 | exact (show isCamp _ _ from by assumption).1 | exact (show isRow _ _ from by assumption).1) (Nat.le_of_ble_eq_true rfl) (by decide) (c_mgoes hT hi hin hj hjn) (by omega) ?_
        refine Gs_ishl p187_83 (shI_e _) ?_
        refine Gs_goto (tgt := 88) p187_84 (by rfl) ?_
        first | refine Gs_ior p187_88 (or0_e _) ?_ | refine Gs_ior p187_88 (orI_e _ _) ?_
        refine Gs_ist2 p187_89 (by first | rfl | assumption) ?_
        refine Gs_iinc5 (b55 := none) p187_90 (by first | rfl | assumption) ?_
        refine Gs_goto (tgt := 58) p187_93 (by rfl) ?_
        rw [accB_s hi hj hjn] at ih2
        first
          | (rw [if_pos (by assumption)] at ih2; exact ih2)
          | (rw [if_neg (by assumption)] at ih2; exact ih2)
    · show Gs X d 187 58 [some (.ref 95), some (.int (iI c)), some (.int (iI (accB (cfM s) (itB (cfM s) (vA s 96 0) (shI (vA s 98 (4 + c))) t) (itB (cfM s) (vA s 96 0) (shI (vA s 98 (4 + c))) t) (4 * i + (4)).toNat))), some (.int (iI (itB (cfM s) (vA s 96 0) (shI (vA s 98 (4 + c))) t))), some (.int (iI i)), some (.int (iI (4)))] [] (s) _
      refine Gs_iload p187_58 rfl rfl ?_
      refine Gs_iconst p187_60 ?_
      refine Gs_icmp_ge (tgt := 96) p187_61 (by rfl) (by first | assumption | exact ⟨by omega, by omega⟩ | (split <;> exact ⟨by omega, by omega⟩)) (by first | assumption | exact ⟨by omega, by omega⟩ | (split <;> exact ⟨by omega, by omega⟩)) (fun hc61 => ?_) (fun hc61 => absurd ‹_› (by first | omega | assumption))
      refine Gs_iinc4 (b54 := none) p187_96 (by first | rfl | assumption) ?_
      refine Gs_goto (tgt := 44) p187_99 (by rfl) ?_
      rw [show 4 * i + 4 = 4 * (i + 1) by omega]
      exact ih _
  · show ∀ b5 : Option Value, Gs X d 187 44 [some (.ref 95), some (.int (iI c)), some (.int (iI (accB (cfM s) (itB (cfM s) (vA s 96 0) (shI (vA s 98 (4 + c))) t) (itB (cfM s) (vA s 96 0) (shI (vA s 98 (4 + c))) t) (4 * ((vA s 96 0))).toNat))), some (.int (iI (itB (cfM s) (vA s 96 0) (shI (vA s 98 (4 + c))) t))), some (.int (iI ((vA s 96 0)))), b5] [] (s) _
    intro b5
    refine Gs_iload p187_44 rfl rfl ?_
    refine Gs_aload_n p187_46 rfl rfl ?_
    refine Gs_getR p187_47 (by first | rfl | assumption | exact (show isTale _ from by assumption).1 | exact (show isCamp _ _ from by assumption).1 | exact (show isRow _ _ from by assumption).1) (by rfl) ?_
    refine Gs_iconst p187_50 ?_
    refine Gs_iald p187_51 (by first | rfl | assumption | exact (show isTale _ from by assumption).1 | exact (show isCamp _ _ from by assumption).1 | exact (show isRow _ _ from by assumption).1) (by omega) (by omega) (by omega) ?_
    refine Gs_icmp_ge (tgt := 102) p187_52 (by rfl) (by first | assumption | exact ⟨by omega, by omega⟩ | (split <;> exact ⟨by omega, by omega⟩)) (by first | assumption | exact ⟨by omega, by omega⟩ | (split <;> exact ⟨by omega, by omega⟩)) (fun hc52 => ?_) (fun hc52 => absurd ‹_› (by first | omega | assumption))
    refine Gs_goto (tgt := 34) p187_102 (by rfl) ?_
    rw [stB_m (by omega) (by omega) hcl]
    exact IH _ _
set_option maxHeartbeats 2000000 in
theorem can_end {X : vX} {s : St} {d : Nat} {c h : Int} {b4 b5 : Option Value} (t : Nat) (hh : rg h) (hn : itB (cfM s) (vA s 96 0) (shI (vA s 98 (4 + c))) t = h) (hQ : iI (itB (cfM s) (vA s 96 0) (shI (vA s 98 (4 + c))) t) = iI (itB (cfM s) (vA s 96 0) (shI (vA s 98 (4 + c))) (vA s 96 0 - 1).toNat)) :
    Gs X d 187 34 [some (.ref 95), some (.int (iI c)), some (.int (iI (itB (cfM s) (vA s 96 0) (shI (vA s 98 (4 + c))) t))), some (.int (iI h)), b4, b5] [] s ((fun vv yy => ∃ zz : Int, vv = some (.int (iI zz)) ∧ (Is1 (itB (cfM s) (vA s 96 0) (shI (vA s 98 (4 + c))) (vA s 96 0 - 1).toNat) s) zz yy)) := by
  refine Gs_iload_n p187_34 rfl rfl ?_
  refine Gs_iload_n p187_35 rfl rfl ?_
  refine Gs_icmp_eq (tgt := 105) p187_36 (by rfl) (itB_rg (rg_of _) _) hh (fun h36 => ?_) (fun h36 => absurd hn h36)
  refine Gs_iload_n p187_105 rfl rfl ?_
  exact Gs_iret p187_106 rfl ⟨itB (cfM s) (vA s 96 0) (shI (vA s 98 (4 + c))) (vA s 96 0 - 1).toNat, congrArg (fun q => some (Value.int q)) hQ, rfl, rfl⟩
theorem can_loop {X : vX} {s : St} {d : Nat} {c : Int} (hd : 3 ≤ d) (hT : MT s) (hcl : ∀ l w, 0 ≤ l → l < vA s 96 0 → 0 ≤ w → w < 4 → 0 ≤ cfM s l w ∧ cfM s l w < vA s 96 0) (l0 : 0 ≤ vA s 98 (4 + c)) (l1 : vA s 98 (4 + c) < vA s 96 0) (m : Nat) : ∀ (t : Nat) (b4 b5 : Option Value), t + m = (vA s 96 0).toNat - 1 → Gs X d 187 34 [some (.ref 95), some (.int (iI c)), some (.int (iI (itB (cfM s) (vA s 96 0) (shI (vA s 98 (4 + c))) (t + 1)))), some (.int (iI (itB (cfM s) (vA s 96 0) (shI (vA s 98 (4 + c))) t))), b4, b5] [] s ((fun vv yy => ∃ zz : Int, vv = some (.int (iI zz)) ∧ (Is1 (itB (cfM s) (vA s 96 0) (shI (vA s 98 (4 + c))) (vA s 96 0 - 1).toNat) s) zz yy)) := by
  have hL0 := hT.1
  have hL := hT.2.1
  induction m with
  | zero =>
    intro t b4 b5 e
    have ef := itB_fix (C := cfM s) hL0 (by omega) hcl (low_shI l0 l1 (by omega)) (crd_shI l0 l1 (by omega))
    rw [show (vA s 96 0).toNat = t + 1 by omega, show (vA s 96 0 - 1).toNat = t by omega] at ef
    refine can_end (t + 1) (itB_rg (rg_of _) _) ?_ ?_
    · exact ((iI_eq (itB_rg (rg_of _) _) (itB_rg (rg_of _) _)).mp ef)
    · rw [show (vA s 96 0 - 1).toNat = t by omega]; exact ef
  | succ m ih =>
    intro t b4 b5 e
    by_cases q : itB (cfM s) (vA s 96 0) (shI (vA s 98 (4 + c))) (t + 1) = itB (cfM s) (vA s 96 0) (shI (vA s 98 (4 + c))) t
    · refine can_end (t + 1) (itB_rg (rg_of _) _) q ?_
      have := itB_stay (C := cfM s) (k := t) (congrArg iI q) (m + 1)
      rw [show (vA s 96 0 - 1).toNat = t + (m + 1) by omega, this, q]
    · exact can_turn hd hT hcl (t + 1) (itB_rg (rg_of _) _) q (fun c4 c5 => ih (t + 1) c4 c5 (by omega))
set_option maxHeartbeats 1000000 in
set_option maxRecDepth 4000 in
theorem m_can {X : vX} {s : St} {c : Int} (hz : rg c) (hT : MT s) (hm : MC s 98 (vA s 96 2)) (hcl : ∀ l w, 0 ≤ l → l < vA s 96 0 → 0 ≤ w → w < 4 → 0 ≤ cfM s l w ∧ cfM s l w < vA s 96 0) (hl : 0 ≤ c → c < vA s 96 2 → 0 < vA s 98 c → 0 ≤ vA s 98 (4 + c) ∧ vA s 98 (4 + c) < vA s 96 0) : OkI X 3 187 [.ref 95, .int (iI c)] s (Is1 (if 0 ≤ c ∧ c < vA s 96 2 then (if 0 < vA s 98 c then itB (cfM s) (vA s 96 0) (shI (vA s 98 (4 + c))) (vA s 96 0 - 1).toNat else -2) else -1) s) := by
  refine Ok.of (r := vm_m187) (ls := [some (.ref 95), some (.int (iI c)), none, none, none, none]) rfl (Nat.le_of_ble_eq_true rfl) rfl (fun d hd => ?_)
  obtain ⟨a1, a2, a3, a4, a5, a6, a7, a8⟩ := id hT
  refine Gs_aload_n p187_0 rfl rfl ?_
  refine Gs_iload_n p187_1 rfl rfl ?_
  refine Gs_callV1I p187_2 (by rfl) (by rfl) (by first | rfl | assumption | exact (show isTale _ from by assumption).1 | exact (show isCamp _ _ from by assumption).1 | exact (show isRow _ _ from by assumption).1) (Nat.le_of_ble_eq_true rfl) (by decide) (c_misCompany hT hz) (by omega) ?_
  refine Gs_ifb_ne (tgt := 10) p187_5 (by rfl) (fun h5 => ?_) (fun h5 => ?_)
  · refine Gs_aload_n p187_10 rfl rfl ?_
    refine Gs_iload_n p187_11 rfl rfl ?_
    refine Gs_callV1I p187_12 (by rfl) (by rfl) (by first | rfl | assumption | exact (show isTale _ from by assumption).1 | exact (show isCamp _ _ from by assumption).1 | exact (show isRow _ _ from by assumption).1) (Nat.le_of_ble_eq_true rfl) (by decide) (c_misIn hm (by omega) (by omega)) (by omega) ?_
    refine Gs_ifb_ne (tgt := 21) p187_15 (by rfl) (fun h15 => ?_) (fun h15 => ?_)
    · refine Gs_iconst p187_21 ?_
      refine Gs_aload_n p187_22 rfl rfl ?_
      refine Gs_getR p187_23 (by first | rfl | assumption | exact (show isTale _ from by assumption).1 | exact (show isCamp _ _ from by assumption).1 | exact (show isRow _ _ from by assumption).1) (by rfl) ?_
      refine Gs_iconst p187_26 ?_
      refine Gs_iload_n p187_27 rfl rfl ?_
      refine Gs_iadd p187_28 ?_
      refine Gs_iald p187_29 (by first | rfl | assumption | exact (show isTale _ from by assumption).1 | exact (show isCamp _ _ from by assumption).1 | exact (show isRow _ _ from by assumption).1) (by omega) (by omega) (by omega) ?_
      refine Gs_ishl p187_30 (shI_e _) ?_
      refine Gs_ist2 p187_31 (by first | rfl | assumption) ?_
      refine Gs_iconst p187_32 ?_
      refine Gs_ist3 p187_33 (by first | rfl | assumption) ?_
      have l := hl (by omega) (by omega) (by omega)
      rw [if_pos (by omega), if_pos (by omega)]
      exact can_turn hd hT hcl 0 ⟨by omega, by omega⟩ (shI_ne l.1 (by omega)) (fun c4 c5 => can_loop hd hT hcl l.1 l.2 ((vA s 96 0).toNat - 1) 0 c4 c5 (by omega))
    · refine Gs_bipush p187_18 (by decide) ?_
      refine Gs_iret p187_20 rfl ⟨_, rfl, ?_⟩
      first
        | (rw [if_pos (by omega), if_pos (by omega)]; exact ⟨rfl, rfl⟩)
        | (rw [if_pos (by omega), if_neg (by omega)]; exact ⟨rfl, rfl⟩)
        | (rw [if_neg (by omega)]; exact ⟨rfl, rfl⟩)
  · refine Gs_iconst p187_8 ?_
    refine Gs_iret p187_9 rfl ⟨_, rfl, ?_⟩
    first
      | (rw [if_pos (by omega), if_pos (by omega)]; exact ⟨rfl, rfl⟩)
      | (rw [if_pos (by omega), if_neg (by omega)]; exact ⟨rfl, rfl⟩)
      | (rw [if_neg (by omega)]; exact ⟨rfl, rfl⟩)

theorem T_can {X : vX} {K : Int} {s : St} (hR : Rel K s) (hK : K < 512) {x1 : Int} (g1 : rg x1) : Both X K s 110 187 [.int (iI x1)] := by
  obtain ⟨h0, h1, h2, h3, h4, h5, h6⟩ := id hR
  have lin : 0 ≤ x1 → x1 < vA s 96 2 → 1 ≤ cg s 14 x1 0 → 0 ≤ cg s 14 x1 1 ∧ cg s 14 x1 1 < vF s 5 4 := fun a b c => (h4.2.2.2.1 x1 a b).2.2.2.2.2.2 c
  refine Both.n hR (k_can g1 h3.1 (fun l w a b => h3.cf_line a b) h4.1 lin) (m_can g1 hR.MT h4.mc h3.clM (fun a b c => ?_)) (by decide) (by decide) ?_ (Kept.rfl' s)
  · have v0 := h4.v0 a b (w := 0) (by omega) (by omega)
    have v1 := h4.v0 a b (w := 1) (by omega) (by omega)
    rw [mi_0] at v0
    rw [mi_1] at v1
    rw [h3.2.2.1, ← v1]
    exact lin a b (by omega)
  · by_cases c : 0 ≤ x1 ∧ x1 < vA s 96 2
    · rw [if_pos c, if_pos c, h4.v0 c.1 c.2 (w := 0) (by omega) (by omega), h4.v0 c.1 c.2 (w := 1) (by omega) (by omega), mi_0, mi_1]
      by_cases c2 : 0 < vA s 98 x1
      · rw [if_pos c2, if_pos (by omega), h3.2.2.1]
        exact itB_cong (by have := h3.2.1; omega) (fun l w a b d e => h3.cf a b d e) _
      · rw [if_neg c2, if_neg (by omega)]
    · rw [if_neg c, if_neg c]