/-! the same on the reference's side -/
set_option maxHeartbeats 1000000 in
set_option maxRecDepth 4000 in
theorem c_mayLight {X : vX} {s : St} {a : Nat} (ha : isA a 33) {n : Int} (hm : MC s a n) (hn : n ≤ 4) {p q : Int} (p0 : 0 ≤ p) (p1 : p < n) (q0 : 0 ≤ q) (q1 : q < n) : OkI X 0 168 [.ref a, .int (iI p), .int (iI q)] s (Is1 (if p ≠ q ∧ vA s a p = 0 ∧ 3 < vA s a q then 1 else 0) s) := by
  refine Ok.of (r := vm_m168) (ls := [some (.ref a), some (.int (iI p)), some (.int (iI q))]) rfl (Nat.le_of_ble_eq_true rfl) rfl (fun d hd => ?_)
  obtain ⟨m1, m2, m3, m4⟩ := id hm
  unfold isA at ha
  have b0 := m3 (0 + p) (by omega) (by omega)
  have b1 := m3 (0 + q) (by omega) (by omega)
  refine Gs_iload_n p168_0 rfl rfl ?_
  refine Gs_iload_n p168_1 rfl rfl ?_
  refine Gs_icmp_eq (tgt := 26) p168_2 (by rfl) (by first | assumption | exact ⟨by omega, by omega⟩ | (split <;> exact ⟨by omega, by omega⟩)) (by first | assumption | exact ⟨by omega, by omega⟩ | (split <;> exact ⟨by omega, by omega⟩)) (fun h2 => ?_) (fun h2 => ?_)
  · refine Gs_iconst p168_26 ?_
    refine Gs_zret p168_27 rfl (by first | exact Or.inl rfl | exact Or.inr rfl | (split <;> first | exact Or.inl rfl | exact Or.inr rfl)) ⟨_, rfl, ?_⟩
    rw [Int.zero_add] at *
    refine ⟨?_, rfl⟩
    (repeat' split) <;> omega
  · refine Gs_aload_n p168_5 rfl rfl ?_
    refine Gs_iconst p168_6 ?_
    refine Gs_iload_n p168_7 rfl rfl ?_
    refine Gs_iadd p168_8 ?_
    refine Gs_iald p168_9 (by first | rfl | assumption | exact (show isTale _ from by assumption).1 | exact (show isCamp _ _ from by assumption).1 | exact (show isRow _ _ from by assumption).1) (by omega) (by omega) (by omega) ?_
    refine Gs_if_ne (tgt := 26) p168_10 (by rfl) (by first | assumption | exact ⟨by omega, by omega⟩ | (split <;> exact ⟨by omega, by omega⟩)) (fun h10 => ?_) (fun h10 => ?_)
    · refine Gs_iconst p168_26 ?_
      refine Gs_zret p168_27 rfl (by first | exact Or.inl rfl | exact Or.inr rfl | (split <;> first | exact Or.inl rfl | exact Or.inr rfl)) ⟨_, rfl, ?_⟩
      rw [Int.zero_add] at *
      refine ⟨?_, rfl⟩
      (repeat' split) <;> omega
    · refine Gs_aload_n p168_13 rfl rfl ?_
      refine Gs_iconst p168_14 ?_
      refine Gs_iload_n p168_15 rfl rfl ?_
      refine Gs_iadd p168_16 ?_
      refine Gs_iald p168_17 (by first | rfl | assumption | exact (show isTale _ from by assumption).1 | exact (show isCamp _ _ from by assumption).1 | exact (show isRow _ _ from by assumption).1) (by omega) (by omega) (by omega) ?_
      refine Gs_iconst p168_18 ?_
      refine Gs_icmp_le (tgt := 26) p168_19 (by rfl) (by first | assumption | exact ⟨by omega, by omega⟩ | (split <;> exact ⟨by omega, by omega⟩)) (by first | assumption | exact ⟨by omega, by omega⟩ | (split <;> exact ⟨by omega, by omega⟩)) (fun h19 => ?_) (fun h19 => ?_)
      · refine Gs_iconst p168_26 ?_
        refine Gs_zret p168_27 rfl (by first | exact Or.inl rfl | exact Or.inr rfl | (split <;> first | exact Or.inl rfl | exact Or.inr rfl)) ⟨_, rfl, ?_⟩
        rw [Int.zero_add] at *
        refine ⟨?_, rfl⟩
        (repeat' split) <;> omega
      · refine Gs_iconst p168_22 ?_
        refine Gs_goto (tgt := 27) p168_23 (by rfl) ?_
        refine Gs_zret p168_27 rfl (by first | exact Or.inl rfl | exact Or.inr rfl | (split <;> first | exact Or.inl rfl | exact Or.inr rfl)) ⟨_, rfl, ?_⟩
        rw [Int.zero_add] at *
        refine ⟨?_, rfl⟩
        (repeat' split) <;> omega

set_option maxHeartbeats 1000000 in
set_option maxRecDepth 4000 in
theorem c_lights {X : vX} {s : St} {a : Nat} (ha : isA a 33) {n : Int} (hm : MC s a n) (hn : n ≤ 4) {p q : Int} (p0 : 0 ≤ p) (p1 : p < n) (q0 : 0 ≤ q) (q1 : q < n) : OkV X 0 169 [.ref a, .int (iI p), .int (iI q)] s (fun t => MOp s t a n (kinV (mv s a 0 n) p q)) := by
  refine Ok.of (r := vm_m169) (ls := [some (.ref a), some (.int (iI p)), some (.int (iI q))]) rfl (Nat.le_of_ble_eq_true rfl) rfl (fun d hd => ?_)
  obtain ⟨m1, m2, m3, m4⟩ := id hm
  unfold isA at ha
  refine Gs_aload_n p169_0 rfl rfl ?_
  refine Gs_iconst p169_1 ?_
  refine Gs_iload_n p169_2 rfl rfl ?_
  refine Gs_iadd p169_3 ?_
  refine Gs_dup2 p169_4 rfl rfl ?_
  refine Gs_iald p169_5 (by first | rfl | assumption | exact (show isTale _ from by assumption).1 | exact (show isCamp _ _ from by assumption).1 | exact (show isRow _ _ from by assumption).1) (by omega) (by omega) (by omega) ?_
  refine Gs_iconst p169_6 ?_
  refine Gs_isub p169_7 ?_
  refine Gs_iast p169_8 (by first | rfl | assumption | exact (show isTale _ from by assumption).1 | exact (show isCamp _ _ from by assumption).1 | exact (show isRow _ _ from by assumption).1) (by omega) (by omega) (by omega) ?_
  refine Gs_aload_n p169_9 rfl rfl ?_
  refine Gs_iconst p169_10 ?_
  refine Gs_iload_n p169_11 rfl rfl ?_
  refine Gs_iadd p169_12 ?_
  refine Gs_iconst p169_13 ?_
  refine Gs_iast p169_14 (by first | rfl | assumption | exact (show isTale _ from by assumption).1 | exact (show isCamp _ _ from by assumption).1 | exact (show isRow _ _ from by assumption).1) (by omega) (by omega) (by omega) ?_
  refine Gs_aload_n p169_15 rfl rfl ?_
  refine Gs_iconst p169_16 ?_
  refine Gs_iload_n p169_17 rfl rfl ?_
  refine Gs_iadd p169_18 ?_
  refine Gs_aload_n p169_19 rfl rfl ?_
  refine Gs_iconst p169_20 ?_
  refine Gs_iload_n p169_21 rfl rfl ?_
  refine Gs_iadd p169_22 ?_
  refine Gs_iald p169_23 (by first | rfl | assumption | exact (show isTale _ from by assumption).1 | exact (show isCamp _ _ from by assumption).1 | exact (show isRow _ _ from by assumption).1) (by omega) (by omega) (by omega) ?_
  rw [show vA (sA (sA s a (0 + q) (vA s a (0 + q) - 1)) a (0 + p) 3) a (4 + q) = vA s a (4 + q) from by rw [vA_sA, if_neg (by omega), vA_sA, if_neg (by omega)]]
  refine Gs_iast p169_24 (by first | rfl | assumption | exact (show isTale _ from by assumption).1 | exact (show isCamp _ _ from by assumption).1 | exact (show isRow _ _ from by assumption).1) (by omega) (by omega) (by omega) ?_
  refine Gs_aload_n p169_25 rfl rfl ?_
  refine Gs_bipush p169_26 (by decide) ?_
  refine Gs_iload_n p169_28 rfl rfl ?_
  refine Gs_iadd p169_29 ?_
  refine Gs_bipush p169_30 (by decide) ?_
  refine Gs_iast p169_32 (by first | rfl | assumption | exact (show isTale _ from by assumption).1 | exact (show isCamp _ _ from by assumption).1 | exact (show isRow _ _ from by assumption).1) (by omega) (by omega) (by omega) ?_
  refine Gs_vret p169_33 rfl ⟨rfl, ?_⟩
  refine MOp.eq (((((MOp.refl s a n).w q0 q1 hn (w := 0) (i := 0 + q) (by omega) (by omega) (by rw [mi_0, Int.zero_add])).w p0 p1 hn (w := 0) (i := 0 + p) (by omega) (by omega) (by rw [mi_0, Int.zero_add])).w p0 p1 hn (w := 1) (by omega) (by omega) (by rw [mi_1])).w p0 p1 hn (w := 6) (by omega) (by omega) (by rw [mi_6])) ?_
  unfold kinV
  rw [mv0 q0 q1, mv1 q0 q1, Int.zero_add]

set_option maxHeartbeats 1000000 in
set_option maxRecDepth 4000 in
theorem c_mayHand {X : vX} {s : St} {n : Int} (hm : MC s 98 n) (hn : n ≤ 4) {p q : Int} (p0 : 0 ≤ p) (p1 : p < n) (q0 : 0 ≤ q) (q1 : q < n) {w : Int} (h2 : 0 ≤ w) (h3 : w < 4) : OkI X 0 172 [.ref 95, .int (iI p), .int (iI q), .int (iI w)] s (Is1 (if 0 < vA s 98 (8 + 4 * p + w) ∧ vA s 98 (8 + 4 * q + w) < 99 then 1 else 0) s) := by
  refine Ok.of (r := vm_m172) (ls := [some (.ref 95), some (.int (iI p)), some (.int (iI q)), some (.int (iI w))]) rfl (Nat.le_of_ble_eq_true rfl) rfl (fun d hd => ?_)
  obtain ⟨m1, m2, m3, m4⟩ := id hm
  have b0 := (m4 p p0 p1).2.2.2 w h2 h3
  have b1 := (m4 q q0 q1).2.2.2 w h2 h3
  refine Gs_aload_n p172_0 rfl rfl ?_
  refine Gs_getR p172_1 (by first | rfl | assumption | exact (show isTale _ from by assumption).1 | exact (show isCamp _ _ from by assumption).1 | exact (show isRow _ _ from by assumption).1) (by rfl) ?_
  refine Gs_bipush p172_4 (by decide) ?_
  refine Gs_iconst p172_6 ?_
  refine Gs_iload_n p172_7 rfl rfl ?_
  refine Gs_imul p172_8 ?_
  refine Gs_iadd p172_9 ?_
  refine Gs_iload_n p172_10 rfl rfl ?_
  refine Gs_iadd p172_11 ?_
  refine Gs_iald p172_12 (by first | rfl | assumption | exact (show isTale _ from by assumption).1 | exact (show isCamp _ _ from by assumption).1 | exact (show isRow _ _ from by assumption).1) (by omega) (by omega) (by omega) ?_
  refine Gs_if_le (tgt := 38) p172_13 (by rfl) (by first | assumption | exact ⟨by omega, by omega⟩ | (split <;> exact ⟨by omega, by omega⟩)) (fun h13 => ?_) (fun h13 => ?_)
  · refine Gs_iconst p172_38 ?_
    refine Gs_zret p172_39 rfl (by first | exact Or.inl rfl | exact Or.inr rfl | (split <;> first | exact Or.inl rfl | exact Or.inr rfl)) ⟨_, rfl, ?_⟩
    refine ⟨?_, rfl⟩
    (repeat' split) <;> omega
  · refine Gs_aload_n p172_16 rfl rfl ?_
    refine Gs_getR p172_17 (by first | rfl | assumption | exact (show isTale _ from by assumption).1 | exact (show isCamp _ _ from by assumption).1 | exact (show isRow _ _ from by assumption).1) (by rfl) ?_
    refine Gs_bipush p172_20 (by decide) ?_
    refine Gs_iconst p172_22 ?_
    refine Gs_iload_n p172_23 rfl rfl ?_
    refine Gs_imul p172_24 ?_
    refine Gs_iadd p172_25 ?_
    refine Gs_iload_n p172_26 rfl rfl ?_
    refine Gs_iadd p172_27 ?_
    refine Gs_iald p172_28 (by first | rfl | assumption | exact (show isTale _ from by assumption).1 | exact (show isCamp _ _ from by assumption).1 | exact (show isRow _ _ from by assumption).1) (by omega) (by omega) (by omega) ?_
    refine Gs_bipush p172_29 (by decide) ?_
    refine Gs_icmp_ge (tgt := 38) p172_31 (by rfl) (by first | assumption | exact ⟨by omega, by omega⟩ | (split <;> exact ⟨by omega, by omega⟩)) (by first | assumption | exact ⟨by omega, by omega⟩ | (split <;> exact ⟨by omega, by omega⟩)) (fun h31 => ?_) (fun h31 => ?_)
    · refine Gs_iconst p172_38 ?_
      refine Gs_zret p172_39 rfl (by first | exact Or.inl rfl | exact Or.inr rfl | (split <;> first | exact Or.inl rfl | exact Or.inr rfl)) ⟨_, rfl, ?_⟩
      refine ⟨?_, rfl⟩
      (repeat' split) <;> omega
    · refine Gs_iconst p172_34 ?_
      refine Gs_goto (tgt := 39) p172_35 (by rfl) ?_
      refine Gs_zret p172_39 rfl (by first | exact Or.inl rfl | exact Or.inr rfl | (split <;> first | exact Or.inl rfl | exact Or.inr rfl)) ⟨_, rfl, ?_⟩
      refine ⟨?_, rfl⟩
      (repeat' split) <;> omega

set_option maxHeartbeats 1000000 in
set_option maxRecDepth 4000 in
theorem c_hourGoes {X : vX} {s : St} {a : Nat} (ha : isA a 33) (hT : MT s) (hm : MC s a (vA s 96 2)) (h96 : a ≠ 96) (hh : vA s a 32 < 100000) : OkV X 1 163 [.ref 95, .ref a] s (fun u => MOpH s u a (vA s 96 2) (burnV (mv s a 0 (vA s 96 2)) (rnM s (vA s a 32)) (vA s 96 2)) (vA s a 32 + 1)) := by
  refine Ok.of (r := vm_m163) (ls := [some (.ref 95), some (.ref a), none, none]) rfl (Nat.le_of_ble_eq_true rfl) rfl (fun d hd => ?_)
  obtain ⟨m1, m2, m3, m4⟩ := id hm
  obtain ⟨a1, a2, a3, a4, a5, a6, a7, a8⟩ := id hT
  have ha' := ha
  unfold isA at ha
  have br := rnM_b hT (vA s a 32)
  refine Gs_aload_n p163_0 rfl rfl ?_
  refine Gs_aload_n p163_1 rfl rfl ?_
  refine Gs_bipush p163_2 (by decide) ?_
  refine Gs_iald p163_4 (by first | rfl | assumption | exact (show isTale _ from by assumption).1 | exact (show isCamp _ _ from by assumption).1 | exact (show isRow _ _ from by assumption).1) (by omega) (by omega) (by omega) ?_
  refine Gs_callV1I p163_5 (by rfl) (by rfl) (by first | rfl | assumption | exact (show isTale _ from by assumption).1 | exact (show isCamp _ _ from by assumption).1 | exact (show isRow _ _ from by assumption).1) (Nat.le_of_ble_eq_true rfl) (by decide) (c_mrainAt hT (by omega) (by omega)) (by omega) ?_
  refine Gs_ist2 p163_8 (by first | rfl | assumption) ?_
  refine Gs_iconst p163_9 ?_
  refine Gs_ist3 p163_10 (by first | rfl | assumption) ?_
  refine dn (n := (vA s 96 2)) (P := fun i => ∀ u, MOp s u a (vA s 96 2) (burnV (mv s a 0 (vA s 96 2)) (rnM s (vA s a 32)) i) → Gs X d 163 11 [some (.ref 95), some (.ref a), some (.int (iI (rnM s (vA s a 32)))), some (.int (iI i))] [] (u) (fun v y => v = none ∧ (fun u => MOpH s u a (vA s 96 2) (burnV (mv s a 0 (vA s 96 2)) (rnM s (vA s a 32)) (vA s 96 2)) (vA s a 32 + 1)) y)) (by omega) (fun i hi hin ih => ?_) ?_ s ((MOp.refl s a (vA s 96 2)).eq (burnV_0 _ _).symm)
  · show ∀ u, MOp s u a (vA s 96 2) (burnV (mv s a 0 (vA s 96 2)) (rnM s (vA s a 32)) i) → Gs X d 163 11 [some (.ref 95), some (.ref a), some (.int (iI (rnM s (vA s a 32)))), some (.int (iI i))] [] (u) _
    intro u o
    have e0 : vA u a (0 + i) = vA s a (0 + i) := by rw [Int.zero_add, ← mv0 (n := vA s 96 2) hi hin, o.1, burnV_at (Int.le_refl i), mv0 hi hin]
    have e6 : vA u a (24 + i) = vA s a (24 + i) := by rw [← mv6 (n := vA s 96 2) hi hin, o.1, burnV_at (Int.le_refl i), mv6 hi hin]
    have g0 := m3 (0 + i) (by omega) (by omega)
    have g6 := (m4 i hi hin).2.1
    refine Gs_iload_n p163_11 rfl rfl ?_
    refine Gs_aload_n p163_12 rfl rfl ?_
    refine Gs_getR p163_13 (by first | rfl | assumption | exact (show isTale _ from by assumption).1 | exact (show isCamp _ _ from by assumption).1 | exact (show isRow _ _ from by assumption).1) (by rfl) ?_
    refine Gs_iconst p163_16 ?_
    refine Gs_iald p163_17 (by first | rfl | assumption | exact (show isTale _ from by assumption).1 | exact (show isCamp _ _ from by assumption).1 | exact (show isRow _ _ from by assumption).1) (by omega) (by omega) (by omega) ?_
    rw [o.2.1 96 2 (fun e => h96 e.symm)]
    refine Gs_icmp_ge (tgt := 68) p163_18 (by rfl) (by first | assumption | exact ⟨by omega, by omega⟩ | (split <;> exact ⟨by omega, by omega⟩)) (by first | assumption | exact ⟨by omega, by omega⟩ | (split <;> exact ⟨by omega, by omega⟩)) (fun hc18 => absurd ‹_› (by first | omega | assumption)) (fun hc18 => ?_)
    refine Gs_aload_n p163_21 rfl rfl ?_
    refine Gs_iconst p163_22 ?_
    refine Gs_iload_n p163_23 rfl rfl ?_
    refine Gs_iadd p163_24 ?_
    refine Gs_iald p163_25 (by first | rfl | assumption | exact (show isTale _ from by assumption).1 | exact (show isCamp _ _ from by assumption).1 | exact (show isRow _ _ from by assumption).1) (by omega) (by omega) (by omega) ?_
    rw [e0]
    refine Gs_if_le (tgt := 62) p163_26 (by rfl) (by first | assumption | exact ⟨by omega, by omega⟩ | (split <;> exact ⟨by omega, by omega⟩)) (fun h26 => ?_) (fun h26 => ?_)
    · refine Gs_iinc3 (b53 := none) p163_62 (by first | rfl | assumption) ?_
      refine Gs_goto (tgt := 11) p163_65 (by rfl) ?_
      have W := o.w hi hin (by omega) (w := 0) (v := burntI (vA s a (0 + i)) (vA s a (24 + i)) (rnM s (vA s a 32))) (i := 0 + i) (by omega) (by omega) (by rw [mi_0, Int.zero_add])
      have E1 : ∀ z, 1 ≤ vA s a (0 + i) → z = burntI (vA s a (0 + i)) (vA s a (24 + i)) (rnM s (vA s a 32)) → hotV (burnV (mv s a 0 (vA s 96 2)) (rnM s (vA s a 32)) i) i z = burnV (mv s a 0 (vA s 96 2)) (rnM s (vA s a 32)) (i + 1) := fun z hz ez => by
        have h1 := burnV_in (V := mv s a 0 (vA s 96 2)) (r := rnM s (vA s a 32)) hi (by rw [mv0 hi hin, ← Int.zero_add i]; exact hz)
        rw [mv0 hi hin, mv6 hi hin, ← Int.zero_add i] at h1
        rw [Int.zero_add i] at h1 ez
        rw [← h1, ez]
      first
        | (refine ih _ (o.eq (burnV_out ?_)); rw [mv0 hi hin, ← Int.zero_add i]; omega; done)
        | (refine ih _ (W.eq ?_); rw [← E1 _ (by omega) rfl]; unfold hotV; rw [if_pos (by omega)]; done)
        | (refine ih _ ((W.out hi hin (by omega)).eq ?_); rw [← E1 _ (by omega) rfl]; unfold hotV outV; rw [if_neg (by omega), upV_same, show burntI (vA s a (0 + i)) (vA s a (24 + i)) (rnM s (vA s a 32)) = 0 by omega]; done)
    · refine Gs_aload_n p163_29 rfl rfl ?_
      refine Gs_iconst p163_30 ?_
      refine Gs_iload_n p163_31 rfl rfl ?_
      refine Gs_iadd p163_32 ?_
      refine Gs_aload_n p163_33 rfl rfl ?_
      refine Gs_iconst p163_34 ?_
      refine Gs_iload_n p163_35 rfl rfl ?_
      refine Gs_iadd p163_36 ?_
      refine Gs_iald p163_37 (by first | rfl | assumption | exact (show isTale _ from by assumption).1 | exact (show isCamp _ _ from by assumption).1 | exact (show isRow _ _ from by assumption).1) (by omega) (by omega) (by omega) ?_
      rw [e0]
      refine Gs_aload_n p163_38 rfl rfl ?_
      refine Gs_bipush p163_39 (by decide) ?_
      refine Gs_iload_n p163_41 rfl rfl ?_
      refine Gs_iadd p163_42 ?_
      refine Gs_iald p163_43 (by first | rfl | assumption | exact (show isTale _ from by assumption).1 | exact (show isCamp _ _ from by assumption).1 | exact (show isRow _ _ from by assumption).1) (by omega) (by omega) (by omega) ?_
      rw [e6]
      refine Gs_iload_n p163_44 rfl rfl ?_
      refine Gs_callS3I p163_45 (by rfl) (Nat.le_of_ble_eq_true rfl) (by decide) (c_cooler g0.1 g0.2 ⟨by omega, by omega⟩ br.1 (by omega)) (by omega) ?_
      refine Gs_iast p163_48 (by first | rfl | assumption | exact (show isTale _ from by assumption).1 | exact (show isCamp _ _ from by assumption).1 | exact (show isRow _ _ from by assumption).1) (by omega) (by omega) (by omega) ?_
      have bb := burntI_b (h := vA s a (0 + i)) (last := vA s a (24 + i)) g0.2 br.1
      refine Gs_aload_n p163_49 rfl rfl ?_
      refine Gs_iconst p163_50 ?_
      refine Gs_iload_n p163_51 rfl rfl ?_
      refine Gs_iadd p163_52 ?_
      refine Gs_iald p163_53 (by first | rfl | assumption | exact (show isTale _ from by assumption).1 | exact (show isCamp _ _ from by assumption).1 | exact (show isRow _ _ from by assumption).1) (by omega) (by omega) (by omega) ?_
      rw [show vA (sA u a (0 + i) (burntI (vA s a (0 + i)) (vA s a (24 + i)) (rnM s (vA s a 32)))) a (0 + i) = burntI (vA s a (0 + i)) (vA s a (24 + i)) (rnM s (vA s a 32)) from by rw [vA_sA, if_pos ⟨rfl, rfl⟩]]
      refine Gs_if_ne (tgt := 62) p163_54 (by rfl) (by first | assumption | exact ⟨by omega, by omega⟩ | (split <;> exact ⟨by omega, by omega⟩)) (fun h54 => ?_) (fun h54 => ?_)
      · refine Gs_iinc3 (b53 := none) p163_62 (by first | rfl | assumption) ?_
        refine Gs_goto (tgt := 11) p163_65 (by rfl) ?_
        have W := o.w hi hin (by omega) (w := 0) (v := burntI (vA s a (0 + i)) (vA s a (24 + i)) (rnM s (vA s a 32))) (i := 0 + i) (by omega) (by omega) (by rw [mi_0, Int.zero_add])
        have E1 : ∀ z, 1 ≤ vA s a (0 + i) → z = burntI (vA s a (0 + i)) (vA s a (24 + i)) (rnM s (vA s a 32)) → hotV (burnV (mv s a 0 (vA s 96 2)) (rnM s (vA s a 32)) i) i z = burnV (mv s a 0 (vA s 96 2)) (rnM s (vA s a 32)) (i + 1) := fun z hz ez => by
          have h1 := burnV_in (V := mv s a 0 (vA s 96 2)) (r := rnM s (vA s a 32)) hi (by rw [mv0 hi hin, ← Int.zero_add i]; exact hz)
          rw [mv0 hi hin, mv6 hi hin, ← Int.zero_add i] at h1
          rw [Int.zero_add i] at h1 ez
          rw [← h1, ez]
        first
          | (refine ih _ (o.eq (burnV_out ?_)); rw [mv0 hi hin, ← Int.zero_add i]; omega; done)
          | (refine ih _ (W.eq ?_); rw [← E1 _ (by omega) rfl]; unfold hotV; rw [if_pos (by omega)]; done)
          | (refine ih _ ((W.out hi hin (by omega)).eq ?_); rw [← E1 _ (by omega) rfl]; unfold hotV outV; rw [if_neg (by omega), upV_same, show burntI (vA s a (0 + i)) (vA s a (24 + i)) (rnM s (vA s a 32)) = 0 by omega]; done)
      · refine Gs_aload_n p163_57 rfl rfl ?_
        refine Gs_iload_n p163_58 rfl rfl ?_
        refine Gs_callS2W p163_59 (by rfl) (Nat.le_of_ble_eq_true rfl) (by decide) (c_goesOut ha' hi (by omega)) (by omega) ?_
        refine Gs_iinc3 (b53 := none) p163_62 (by first | rfl | assumption) ?_
        refine Gs_goto (tgt := 11) p163_65 (by rfl) ?_
        have W := o.w hi hin (by omega) (w := 0) (v := burntI (vA s a (0 + i)) (vA s a (24 + i)) (rnM s (vA s a 32))) (i := 0 + i) (by omega) (by omega) (by rw [mi_0, Int.zero_add])
        have E1 : ∀ z, 1 ≤ vA s a (0 + i) → z = burntI (vA s a (0 + i)) (vA s a (24 + i)) (rnM s (vA s a 32)) → hotV (burnV (mv s a 0 (vA s 96 2)) (rnM s (vA s a 32)) i) i z = burnV (mv s a 0 (vA s 96 2)) (rnM s (vA s a 32)) (i + 1) := fun z hz ez => by
          have h1 := burnV_in (V := mv s a 0 (vA s 96 2)) (r := rnM s (vA s a 32)) hi (by rw [mv0 hi hin, ← Int.zero_add i]; exact hz)
          rw [mv0 hi hin, mv6 hi hin, ← Int.zero_add i] at h1
          rw [Int.zero_add i] at h1 ez
          rw [← h1, ez]
        first
          | (refine ih _ (o.eq (burnV_out ?_)); rw [mv0 hi hin, ← Int.zero_add i]; omega; done)
          | (refine ih _ (W.eq ?_); rw [← E1 _ (by omega) rfl]; unfold hotV; rw [if_pos (by omega)]; done)
          | (refine ih _ ((W.out hi hin (by omega)).eq ?_); rw [← E1 _ (by omega) rfl]; unfold hotV outV; rw [if_neg (by omega), upV_same, show burntI (vA s a (0 + i)) (vA s a (24 + i)) (rnM s (vA s a 32)) = 0 by omega]; done)
  · show ∀ u, MOp s u a (vA s 96 2) (burnV (mv s a 0 (vA s 96 2)) (rnM s (vA s a 32)) ((vA s 96 2))) → Gs X d 163 11 [some (.ref 95), some (.ref a), some (.int (iI (rnM s (vA s a 32)))), some (.int (iI ((vA s 96 2))))] [] (u) _
    intro u o
    refine Gs_iload_n p163_11 rfl rfl ?_
    refine Gs_aload_n p163_12 rfl rfl ?_
    refine Gs_getR p163_13 (by first | rfl | assumption | exact (show isTale _ from by assumption).1 | exact (show isCamp _ _ from by assumption).1 | exact (show isRow _ _ from by assumption).1) (by rfl) ?_
    refine Gs_iconst p163_16 ?_
    refine Gs_iald p163_17 (by first | rfl | assumption | exact (show isTale _ from by assumption).1 | exact (show isCamp _ _ from by assumption).1 | exact (show isRow _ _ from by assumption).1) (by omega) (by omega) (by omega) ?_
    rw [o.2.1 96 2 (fun e => h96 e.symm)]
    refine Gs_icmp_ge (tgt := 68) p163_18 (by rfl) (by first | assumption | exact ⟨by omega, by omega⟩ | (split <;> exact ⟨by omega, by omega⟩)) (by first | assumption | exact ⟨by omega, by omega⟩ | (split <;> exact ⟨by omega, by omega⟩)) (fun hc18 => ?_) (fun hc18 => absurd ‹_› (by first | omega | assumption))
    refine Gs_aload_n p163_68 rfl rfl ?_
    refine Gs_bipush p163_69 (by decide) ?_
    refine Gs_dup2 p163_71 rfl rfl ?_
    refine Gs_iald p163_72 (by first | rfl | assumption | exact (show isTale _ from by assumption).1 | exact (show isCamp _ _ from by assumption).1 | exact (show isRow _ _ from by assumption).1) (by omega) (by omega) (by omega) ?_
    rw [o.2.2.2.1 32 (by omega)]
    refine Gs_iconst p163_73 ?_
    refine Gs_iadd p163_74 ?_
    refine Gs_iast p163_75 (by first | rfl | assumption | exact (show isTale _ from by assumption).1 | exact (show isCamp _ _ from by assumption).1 | exact (show isRow _ _ from by assumption).1) (by omega) (by omega) (by omega) ?_
    refine Gs_vret p163_76 rfl ⟨rfl, ?_⟩
    exact o.hour (by omega) (by omega)

theorem merL_0 (V : Int → Int → Int) (a b : Int) : merL V a b 0 = V := by
  funext k w
  unfold merL
  rw [if_neg (by omega)]
theorem merL_s {V : Int → Int → Int} {a b i : Int} (hab : a ≠ b) (hi : 0 ≤ i) : upV (upV (merL V a b i) a (2 + i) (mn 99 (V a (2 + i) + V b (2 + i)))) b (2 + i) 0 = merL V a b (i + 1) := by
  funext k w
  rw [upV_at, upV_at]
  unfold merL
  by_cases e : w = 2 + i
  · subst e
    by_cases kb : k = b
    · subst kb
      rw [if_pos ⟨rfl, rfl⟩, if_pos ⟨Or.inr rfl, by omega, by omega⟩, if_neg (fun e => hab e.symm)]
    · rw [if_neg (fun e => kb e.1)]
      by_cases ka : k = a
      · subst ka
        rw [if_pos ⟨rfl, rfl⟩, if_pos ⟨Or.inl rfl, by omega, by omega⟩, if_pos rfl]
      · rw [if_neg (fun e => ka e.1), if_neg (by omega), if_neg (by omega)]
  · rw [if_neg (fun q => e q.2), if_neg (fun q => e q.2)]
    by_cases c : (k = a ∨ k = b) ∧ 2 ≤ w ∧ w < 2 + i
    · rw [if_pos c, if_pos (show (k = a ∨ k = b) ∧ 2 ≤ w ∧ w < 2 + (i + 1) from ⟨c.1, c.2.1, by omega⟩)]
    · rw [if_neg c, if_neg (fun q => c ⟨q.1, q.2.1, by omega⟩)]
theorem merL_at {V : Int → Int → Int} {a b i k w : Int} (h : ¬ (2 ≤ w ∧ w < 2 + i)) : merL V a b i k w = V k w := by unfold merL; rw [if_neg (fun q => h q.2)]
def merV (V : Int → Int → Int) (a b : Int) : Int → Int → Int := merL (outV (mer1 V a b) b) a b 4
theorem hotV_mer (V : Int → Int → Int) (a b : Int) : hotV (merL V a b 4) b 0 = merL (outV V b) a b 4 := by
  unfold hotV
  rw [if_neg (by omega)]
  funext k w
  by_cases c : (k = a ∨ k = b) ∧ 2 ≤ w ∧ w < 2 + 4
  · rw [upV_at, upV_at, upV_at, if_neg (by omega), if_neg (by omega), if_neg (by omega)]
    unfold merL
    rw [if_pos c, if_pos c]
    have oa : ∀ x, outV V b x w = V x w := fun x => by unfold outV; rw [upV_at, upV_at, upV_at, if_neg (by omega), if_neg (by omega), if_neg (by omega)]
    rw [oa, oa]
  · have e1 : merL (outV V b) a b 4 k w = outV V b k w := by unfold merL; rw [if_neg c]
    have e2 : merL V a b 4 k w = V k w := by unfold merL; rw [if_neg c]
    rw [e1, upV_at, upV_at, upV_at, e2]
    rfl
theorem mn_b {x y l h : Int} (h1 : l ≤ x) (h2 : l ≤ y) (h3 : x ≤ h ∨ y ≤ h) : l ≤ mn x y ∧ mn x y ≤ h := by unfold mn; split <;> omega
set_option maxHeartbeats 2000000 in
set_option maxRecDepth 4000 in
theorem c_merge {X : vX} {s : St} {c t : Nat} {n : Int} (hc : isCamp c t) (hk : CampOk s c n) {a b : Int} (a0 : 0 ≤ a) (a1 : a < n) (b0 : 0 ≤ b) (b1 : b < n) (hab : a ≠ b) : OkV X 3 17 [.ref c, .int (iI a), .int (iI b)] s (fun u => COp s u c n (merV (cv s c n) a b) (vF s c 2)) := by
  refine Ok.of (r := vm_m17) (ls := [some (.ref c), some (.int (iI a)), some (.int (iI b)), none, none]) rfl (Nat.le_of_ble_eq_true rfl) rfl (fun d hd => ?_)
  obtain ⟨hy, hr⟩ := id hc
  obtain ⟨k1, k2, k3, k4, k5, k6⟩ := id hk
  have qa := hk.b a0 a1 (w := 0) (by omega) (by omega)
  have qb := hk.b b0 b1 (w := 0) (by omega) (by omega)
  have la := hk.b a0 a1 (w := 1) (by omega) (by omega)
  have lb := hk.b b0 b1 (w := 1) (by omega) (by omega)
  have e0 : loW 0 = 0 ∧ hiW 0 = 20 := by decide
  have e1 : loW 1 = -4 ∧ hiW 1 = 8 := by decide
  have x0 : mn 20 (cg s c a 0 + cg s c b 0) = mn 20 (cv s c n a 0 + cv s c n b 0) := by rw [cv_at a0 a1 (by omega) (by omega), cv_at b0 b1 (by omega) (by omega)]
  have x1 : mn (cg s c a 1) (cg s c b 1) = mn (cv s c n a 1) (cv s c n b 1) := by rw [cv_at a0 a1 (by omega) (by omega), cv_at b0 b1 (by omega) (by omega)]
  have o1 := (COp.refl hk).put a0 a1 (w := 0) (v := mn 20 (cg s c a 0 + cg s c b 0)) (by omega) (by omega) (by have := mn_b (x := 20) (y := cg s c a 0 + cg s c b 0) (l := 0) (h := 20) (by omega) (by omega) (by omega); omega)
  have r1 : cg (cs s c a 0 (mn 20 (cg s c a 0 + cg s c b 0))) c a 1 = cg s c a 1 := by rw [cg_cs (by omega) (by omega) (by omega) (by omega), if_neg (by omega)]
  have r2 : cg (cs s c a 0 (mn 20 (cg s c a 0 + cg s c b 0))) c b 1 = cg s c b 1 := by rw [cg_cs (by omega) (by omega) (by omega) (by omega), if_neg (by omega)]
  have o2 := o1.put a0 a1 (w := 1) (v := mn (cg s c a 1) (cg s c b 1)) (by omega) (by omega) (by have := mn_b (x := cg s c a 1) (y := cg s c b 1) (l := -4) (h := 8) (by omega) (by omega) (by omega); omega)
  have o3 : COp s (cs (cs s c a 0 (mn 20 (cg s c a 0 + cg s c b 0))) c a 1 (mn (cg s c a 1) (cg s c b 1))) c n (merL (mer1 (cv s c n) a b) a b 0) (vF s c 2) := o2.eq (by rw [merL_0, x0, x1]; rfl)
  refine Gs_aload_n p17_0 rfl rfl ?_
  refine Gs_iload_n p17_1 rfl rfl ?_
  refine Gs_iconst p17_2 ?_
  refine Gs_bipush p17_3 (by decide) ?_
  refine Gs_aload_n p17_5 rfl rfl ?_
  refine Gs_iload_n p17_6 rfl rfl ?_
  refine Gs_iconst p17_7 ?_
  refine Gs_callV2I p17_8 (by rfl) (by rfl) (by first | rfl | assumption | exact (show isTale _ from by assumption).1 | exact (show isCamp _ _ from by assumption).1 | exact (show isRow _ _ from by assumption).1) (Nat.le_of_ble_eq_true rfl) (by decide) (c_Cget hc hk a0 a1 (by omega) (by omega)) (by omega) ?_
  refine Gs_aload_n p17_11 rfl rfl ?_
  refine Gs_iload_n p17_12 rfl rfl ?_
  refine Gs_iconst p17_13 ?_
  refine Gs_callV2I p17_14 (by rfl) (by rfl) (by first | rfl | assumption | exact (show isTale _ from by assumption).1 | exact (show isCamp _ _ from by assumption).1 | exact (show isRow _ _ from by assumption).1) (Nat.le_of_ble_eq_true rfl) (by decide) (c_Cget hc hk b0 b1 (by omega) (by omega)) (by omega) ?_
  refine Gs_iadd p17_17 ?_
  refine Gs_callS2I p17_18 (by rfl) (Nat.le_of_ble_eq_true rfl) (by decide) (c_min ⟨by omega, by omega⟩ ⟨by omega, by omega⟩) (by omega) ?_
  refine Gs_callV3W p17_21 (by rfl) (by rfl) (by first | rfl | assumption | exact (show isTale _ from by assumption).1 | exact (show isCamp _ _ from by assumption).1 | exact (show isRow _ _ from by assumption).1) (Nat.le_of_ble_eq_true rfl) (by decide) (c_Cset hc hk a0 a1 (by omega) (by omega)) (by omega) ?_
  refine Gs_aload_n p17_24 rfl rfl ?_
  refine Gs_iload_n p17_25 rfl rfl ?_
  refine Gs_iconst p17_26 ?_
  refine Gs_aload_n p17_27 rfl rfl ?_
  refine Gs_iload_n p17_28 rfl rfl ?_
  refine Gs_iconst p17_29 ?_
  refine Gs_callV2I p17_30 (by rfl) (by rfl) (by first | rfl | assumption | exact (show isTale _ from by assumption).1 | exact (show isCamp _ _ from by assumption).1 | exact (show isRow _ _ from by assumption).1) (Nat.le_of_ble_eq_true rfl) (by decide) (c_Cget hc o1.2.2.2.2 a0 a1 (by omega) (by omega)) (by omega) ?_
  rw [r1]
  refine Gs_aload_n p17_33 rfl rfl ?_
  refine Gs_iload_n p17_34 rfl rfl ?_
  refine Gs_iconst p17_35 ?_
  refine Gs_callV2I p17_36 (by rfl) (by rfl) (by first | rfl | assumption | exact (show isTale _ from by assumption).1 | exact (show isCamp _ _ from by assumption).1 | exact (show isRow _ _ from by assumption).1) (Nat.le_of_ble_eq_true rfl) (by decide) (c_Cget hc o1.2.2.2.2 b0 b1 (by omega) (by omega)) (by omega) ?_
  rw [r2]
  refine Gs_callS2I p17_39 (by rfl) (Nat.le_of_ble_eq_true rfl) (by decide) (c_min ⟨by omega, by omega⟩ ⟨by omega, by omega⟩) (by omega) ?_
  refine Gs_callV3W p17_42 (by rfl) (by rfl) (by first | rfl | assumption | exact (show isTale _ from by assumption).1 | exact (show isCamp _ _ from by assumption).1 | exact (show isRow _ _ from by assumption).1) (Nat.le_of_ble_eq_true rfl) (by decide) (c_Cset hc o1.2.2.2.2 a0 a1 (by omega) (by omega)) (by omega) ?_
  refine Gs_iconst p17_45 ?_
  refine Gs_ist3 p17_46 (by first | rfl | assumption) ?_
  refine dn (n := 4) (P := fun i => ∀ u B, COp s u c n (merL (mer1 (cv s c n) a b) a b i) (vF s c 2) → Gs X d 17 47 [some (.ref c), some (.int (iI a)), some (.int (iI b)), some (.int (iI i)), B] [] (u) (fun v y => v = none ∧ (fun u => COp s u c n (merV (cv s c n) a b) (vF s c 2)) y)) (by omega) (fun i hi hin ih => ?_) ?_ _ none o3
  · show ∀ u B, COp s u c n (merL (mer1 (cv s c n) a b) a b i) (vF s c 2) → Gs X d 17 47 [some (.ref c), some (.int (iI a)), some (.int (iI b)), some (.int (iI i)), B] [] (u) _
    intro u B o
    have ga := o.at a0 a1 (w := 2 + i) (by omega) (by omega)
    have gb := o.at b0 b1 (w := 2 + i) (by omega) (by omega)
    rw [merL_at (by omega)] at ga gb
    have ba := o.2.2.2.2.b a0 a1 (w := 2 + i) (by omega) (by omega)
    have bb := o.2.2.2.2.b b0 b1 (w := 2 + i) (by omega) (by omega)
    have lw : loW (2 + i) = 0 ∧ hiW (2 + i) = 99 := by
      unfold loW hiW
      constructor <;> ((repeat' split) <;> omega)
    have mb := mn_b (x := 99) (y := mer1 (cv s c n) a b a (2 + i) + mer1 (cv s c n) a b b (2 + i)) (l := 0) (h := 99) (by omega) (by omega) (by omega)
    have p1 := o.put a0 a1 (w := 2 + i) (v := mn 99 (mer1 (cv s c n) a b a (2 + i) + mer1 (cv s c n) a b b (2 + i))) (by omega) (by omega) (by omega)
    have p2 := p1.put b0 b1 (w := 2 + i) (v := 0) (by omega) (by omega) (by omega)
    rw [merL_s hab hi] at p2
    refine Gs_iload_n p17_47 rfl rfl ?_
    refine Gs_iconst p17_48 ?_
    refine Gs_icmp_ge (tgt := 101) p17_49 (by rfl) (by first | assumption | exact ⟨by omega, by omega⟩ | (split <;> exact ⟨by omega, by omega⟩)) (by first | assumption | exact ⟨by omega, by omega⟩ | (split <;> exact ⟨by omega, by omega⟩)) (fun hc49 => absurd ‹_› (by first | omega | assumption)) (fun hc49 => ?_)
    refine Gs_aload_n p17_52 rfl rfl ?_
    refine Gs_iload_n p17_53 rfl rfl ?_
    refine Gs_iconst p17_54 ?_
    refine Gs_iload_n p17_55 rfl rfl ?_
    refine Gs_iadd p17_56 ?_
    refine Gs_callV2I p17_57 (by rfl) (by rfl) (by first | rfl | assumption | exact (show isTale _ from by assumption).1 | exact (show isCamp _ _ from by assumption).1 | exact (show isRow _ _ from by assumption).1) (Nat.le_of_ble_eq_true rfl) (by decide) (c_Cget hc o.2.2.2.2 a0 a1 (by omega) (by omega)) (by omega) ?_
    rw [ga]
    refine Gs_aload_n p17_60 rfl rfl ?_
    refine Gs_iload_n p17_61 rfl rfl ?_
    refine Gs_iconst p17_62 ?_
    refine Gs_iload_n p17_63 rfl rfl ?_
    refine Gs_iadd p17_64 ?_
    refine Gs_callV2I p17_65 (by rfl) (by rfl) (by first | rfl | assumption | exact (show isTale _ from by assumption).1 | exact (show isCamp _ _ from by assumption).1 | exact (show isRow _ _ from by assumption).1) (Nat.le_of_ble_eq_true rfl) (by decide) (c_Cget hc o.2.2.2.2 b0 b1 (by omega) (by omega)) (by omega) ?_
    rw [gb]
    refine Gs_iadd p17_68 ?_
    refine Gs_ist4 p17_69 (by first | rfl | assumption) ?_
    refine Gs_aload_n p17_71 rfl rfl ?_
    refine Gs_iload_n p17_72 rfl rfl ?_
    refine Gs_iconst p17_73 ?_
    refine Gs_iload_n p17_74 rfl rfl ?_
    refine Gs_iadd p17_75 ?_
    refine Gs_bipush p17_76 (by decide) ?_
    refine Gs_iload p17_78 rfl rfl ?_
    refine Gs_callS2I p17_80 (by rfl) (Nat.le_of_ble_eq_true rfl) (by decide) (c_min ⟨by omega, by omega⟩ ⟨by omega, by omega⟩) (by omega) ?_
    refine Gs_callV3W p17_83 (by rfl) (by rfl) (by first | rfl | assumption | exact (show isTale _ from by assumption).1 | exact (show isCamp _ _ from by assumption).1 | exact (show isRow _ _ from by assumption).1) (Nat.le_of_ble_eq_true rfl) (by decide) (c_Cset hc o.2.2.2.2 a0 a1 (by omega) (by omega)) (by omega) ?_
    refine Gs_aload_n p17_86 rfl rfl ?_
    refine Gs_iload_n p17_87 rfl rfl ?_
    refine Gs_iconst p17_88 ?_
    refine Gs_iload_n p17_89 rfl rfl ?_
    refine Gs_iadd p17_90 ?_
    refine Gs_iconst p17_91 ?_
    refine Gs_callV3W p17_92 (by rfl) (by rfl) (by first | rfl | assumption | exact (show isTale _ from by assumption).1 | exact (show isCamp _ _ from by assumption).1 | exact (show isRow _ _ from by assumption).1) (Nat.le_of_ble_eq_true rfl) (by decide) (c_Cset hc p1.2.2.2.2 b0 b1 (by omega) (by omega)) (by omega) ?_
    refine Gs_iinc3 (b53 := none) p17_95 (by first | rfl | assumption) ?_
    refine Gs_goto (tgt := 47) p17_98 (by rfl) ?_
    exact ih _ _ p2
  · show ∀ u B, COp s u c n (merL (mer1 (cv s c n) a b) a b (4)) (vF s c 2) → Gs X d 17 47 [some (.ref c), some (.int (iI a)), some (.int (iI b)), some (.int (iI (4))), B] [] (u) _
    intro u B o
    refine Gs_iload_n p17_47 rfl rfl ?_
    refine Gs_iconst p17_48 ?_
    refine Gs_icmp_ge (tgt := 101) p17_49 (by rfl) (by first | assumption | exact ⟨by omega, by omega⟩ | (split <;> exact ⟨by omega, by omega⟩)) (by first | assumption | exact ⟨by omega, by omega⟩ | (split <;> exact ⟨by omega, by omega⟩)) (fun hc49 => ?_) (fun hc49 => absurd ‹_› (by first | omega | assumption))
    refine Gs_aload_n p17_101 rfl rfl ?_
    refine Gs_iload_n p17_102 rfl rfl ?_
    refine Gs_iconst p17_103 ?_
    refine Gs_callV2W p17_104 (by rfl) (by rfl) (by first | rfl | assumption | exact (show isTale _ from by assumption).1 | exact (show isCamp _ _ from by assumption).1 | exact (show isRow _ _ from by assumption).1) (Nat.le_of_ble_eq_true rfl) (by decide) (c_setHot hc o.2.2.2.2 b0 b1 (by omega) (by omega)) (by omega) ?_
    refine Gs_vret p17_107 rfl ⟨rfl, ?_⟩
    exact (o.hot b0 b1 (by omega) (by omega)).eq (hotV_mer _ _ _)
