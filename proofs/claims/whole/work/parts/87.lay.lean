/-! laying a text: the class -/
abbrev toldOk (A : AS) (m : Nat) : Prop := ∀ j : Nat, j < m → A.nx j = 9 ∨ A.nx j < A.L
theorem RC.camp {u : St} {A : AS} (h : RC u A) (ok : AOk A) : CampOk u 66 A.N := by
  obtain ⟨h1, h4, h6, h7, h8⟩ := h
  obtain ⟨a1, a2, a3, a4, a5, a6, a7, a8, a9⟩ := ok
  refine ⟨a5, a6, h6, by omega, by omega, fun k w k0 k1 w0 w1 => ?_⟩
  rw [h7 k w k0 k1 w0 w1]
  obtain ⟨b0, b1, b2, b6, b7⟩ := a9 k k0 k1
  have hL : loW w = if w = 1 then -4 else if w = 6 then -4 else 0 := rfl
  have hH : hiW w = if w = 0 then 20 else if w = 1 then 8 else if w ≤ 5 then 99 else if w = 6 then 3 else 100000 := rfl
  by_cases c0 : w = 0
  · subst c0; rw [show loW 0 = 0 from rfl, show hiW 0 = 20 from rfl]; omega
  · by_cases c1 : w = 1
    · subst c1; rw [show loW 1 = -4 from rfl, show hiW 1 = 8 from rfl]; omega
    · by_cases c6 : w = 6
      · subst c6; rw [b6, show loW 6 = -4 from rfl, show hiW 6 = 3 from rfl]; omega
      · by_cases c7 : w = 7
        · subst c7; rw [b7, show loW 7 = 0 from rfl, show hiW 7 = 100000 from rfl]; omega
        · have q := b2 w (by omega) (by omega)
          rw [if_neg c1, if_neg c6] at hL
          rw [if_neg c0, if_neg c1, if_pos (by omega)] at hH
          omega
set_option maxHeartbeats 1000000 in
set_option maxRecDepth 4000 in
theorem c_tellsAll {X : vX} {s : St} {A : AS} (h : RC s A) (ok : AOk A) : OkI X 1 77 [.ref 57] s (Is1 (if toldOk A (4 * A.L).toNat then 1 else 0) s) := by
  refine Ok.of (r := vm_m77) (ls := [some (.ref 57), none, none]) rfl (Nat.le_of_ble_eq_true rfl) rfl (fun d hd => ?_)
  obtain ⟨⟨g1, g2, g3⟩, g4⟩ := id h
  obtain ⟨a1, a2, a3, a4, a5, a6, a7, a8⟩ := id ok
  refine Gs_iconst p77_0 ?_
  refine Gs_ist1 p77_1 (by first | rfl | assumption) ?_
  refine dn (n := (4 * A.L)) (P := fun i => ∀ b2 : Option Value, (∀ j : Nat, (j : Int) < i → A.nx j = 9 ∨ A.nx j < A.L) → Gs X d 77 2 [some (.ref 57), some (.int (iI i)), b2] [] (s) (fun vv yy => ∃ zz : Int, vv = some (.int (iI zz)) ∧ (fun z u => z = (if toldOk A (4 * A.L).toNat then 1 else 0) ∧ u = s) zz yy)) (by omega) (fun i hi hin ih => ?_) ?_ none (fun j q => absurd q (by omega))
  · show ∀ b2 : Option Value, (∀ j : Nat, (j : Int) < i → A.nx j = 9 ∨ A.nx j < A.L) → Gs X d 77 2 [some (.ref 57), some (.int (iI i)), b2] [] (s) _
    intro b2 hj
    have nb := a7 i hi hin
    refine Gs_iload_n p77_2 rfl rfl ?_
    refine Gs_aload_n p77_3 rfl rfl ?_
    refine Gs_getR p77_4 (by first | rfl | assumption | exact (show isTale _ from by assumption).1 | exact (show isCamp _ _ from by assumption).1 | exact (show isRow _ _ from by assumption).1) (by rfl) ?_
    refine Gs_callV0I p77_7 (by rfl) (by rfl) (by rfl) (Nat.le_of_ble_eq_true rfl) (by decide) (c_size row58) (by omega) ?_
    rw [g2]
    refine Gs_icmp_ge (tgt := 44) p77_10 (by rfl) (by first | assumption | exact ⟨by omega, by omega⟩ | (split <;> exact ⟨by omega, by omega⟩)) (by first | assumption | exact ⟨by omega, by omega⟩ | (split <;> exact ⟨by omega, by omega⟩)) (fun hc10 => absurd ‹_› (by first | omega | assumption)) (fun hc10 => ?_)
    refine Gs_aload_n p77_13 rfl rfl ?_
    refine Gs_getR p77_14 (by first | rfl | assumption | exact (show isTale _ from by assumption).1 | exact (show isCamp _ _ from by assumption).1 | exact (show isRow _ _ from by assumption).1) (by rfl) ?_
    refine Gs_iload_n p77_17 rfl rfl ?_
    refine Gs_callV1I p77_18 (by rfl) (by rfl) (by rfl) (Nat.le_of_ble_eq_true rfl) (by decide) (c_aget (a := 59) row58 rfl ⟨by omega, by omega⟩ (by omega) (by omega)) (by omega) ?_
    rw [if_pos ⟨hi, by omega⟩, g3 i hi hin]
    refine Gs_ist2 p77_21 (by first | rfl | assumption) ?_
    refine Gs_iload_n p77_22 rfl rfl ?_
    refine Gs_bipush p77_23 (by decide) ?_
    refine Gs_icmp_eq (tgt := 38) p77_25 (by rfl) (by first | assumption | exact ⟨by omega, by omega⟩ | (split <;> exact ⟨by omega, by omega⟩)) (by first | assumption | exact ⟨by omega, by omega⟩ | (split <;> exact ⟨by omega, by omega⟩)) (fun h25 => ?_) (fun h25 => ?_)
    · refine Gs_iinc1 (b51 := none) p77_38 (by first | rfl | assumption) ?_
      refine Gs_goto (tgt := 2) p77_41 (by rfl) ?_
      refine ih _ (fun j hj' => ?_)
      by_cases c : (j : Int) = i
      · rw [c]; omega
      · exact hj j (by omega)
    · refine Gs_aload_n p77_28 rfl rfl ?_
      refine Gs_iload_n p77_29 rfl rfl ?_
      refine Gs_callV1I p77_30 (by rfl) (by rfl) (by rfl) (Nat.le_of_ble_eq_true rfl) (by decide) (c_isLine tale57 (h.tale ok) ⟨by omega, by omega⟩) (by omega) ?_
      rw [g1]
      refine Gs_ifb_ne (tgt := 38) p77_33 (by rfl) (fun h33 => ?_) (fun h33 => ?_)
      · refine Gs_iinc1 (b51 := none) p77_38 (by first | rfl | assumption) ?_
        refine Gs_goto (tgt := 2) p77_41 (by rfl) ?_
        refine ih _ (fun j hj' => ?_)
        by_cases c : (j : Int) = i
        · rw [c]; omega
        · exact hj j (by omega)
      · refine Gs_iconst p77_36 ?_
        refine Gs_zret p77_37 rfl (by first | exact Or.inl rfl | exact Or.inr rfl | (split <;> first | exact Or.inl rfl | exact Or.inr rfl)) ⟨_, rfl, ?_⟩
        refine ⟨(if_neg (fun q => ?_)).symm, rfl⟩
        have := q i.toNat (by omega)
        rw [show ((i.toNat : Nat) : Int) = i by omega] at this
        omega
  · show ∀ b2 : Option Value, (∀ j : Nat, (j : Int) < ((4 * A.L)) → A.nx j = 9 ∨ A.nx j < A.L) → Gs X d 77 2 [some (.ref 57), some (.int (iI ((4 * A.L)))), b2] [] (s) _
    intro b2 hj
    refine Gs_iload_n p77_2 rfl rfl ?_
    refine Gs_aload_n p77_3 rfl rfl ?_
    refine Gs_getR p77_4 (by first | rfl | assumption | exact (show isTale _ from by assumption).1 | exact (show isCamp _ _ from by assumption).1 | exact (show isRow _ _ from by assumption).1) (by rfl) ?_
    refine Gs_callV0I p77_7 (by rfl) (by rfl) (by rfl) (Nat.le_of_ble_eq_true rfl) (by decide) (c_size row58) (by omega) ?_
    rw [g2]
    refine Gs_icmp_ge (tgt := 44) p77_10 (by rfl) (by first | assumption | exact ⟨by omega, by omega⟩ | (split <;> exact ⟨by omega, by omega⟩)) (by first | assumption | exact ⟨by omega, by omega⟩ | (split <;> exact ⟨by omega, by omega⟩)) (fun hc10 => ?_) (fun hc10 => absurd ‹_› (by first | omega | assumption))
    refine Gs_iconst p77_44 ?_
    refine Gs_zret p77_45 rfl (by first | exact Or.inl rfl | exact Or.inr rfl | (split <;> first | exact Or.inl rfl | exact Or.inr rfl)) ⟨_, rfl, ?_⟩
    exact ⟨(if_pos (fun j hj' => hj j (by omega))).symm, rfl⟩

set_option maxHeartbeats 1000000 in
set_option maxRecDepth 4000 in
theorem c_readAWhole {X : vX} {s : St} {A : AS} (h : RC s A) (ok : AOk A) : OkI X 2 46 [.ref 54] s (Is1 (if 1 ≤ A.N ∧ toldOk A (4 * A.L).toNat then 1 else 0) s) := by
  refine Ok.of (r := vm_m46) (ls := [some (.ref 54)]) rfl (Nat.le_of_ble_eq_true rfl) rfl (fun d hd => ?_)
  obtain ⟨a1, a2, a3, a4, a5, a6, a7⟩ := id ok
  refine Gs_aload_n p46_0 rfl rfl ?_
  refine Gs_getR p46_1 (by first | rfl | assumption | exact (show isTale _ from by assumption).1 | exact (show isCamp _ _ from by assumption).1 | exact (show isRow _ _ from by assumption).1) (by rfl) ?_
  refine Gs_callV0I p46_4 (by rfl) (by rfl) (by rfl) (Nat.le_of_ble_eq_true rfl) (by decide) (c_companies camp66 (h.camp ok)) (by omega) ?_
  refine Gs_iconst p46_7 ?_
  refine Gs_icmp_lt (tgt := 25) p46_8 (by rfl) (by first | assumption | exact ⟨by omega, by omega⟩ | (split <;> exact ⟨by omega, by omega⟩)) (by first | assumption | exact ⟨by omega, by omega⟩ | (split <;> exact ⟨by omega, by omega⟩)) (fun h8 => ?_) (fun h8 => ?_)
  · refine Gs_iconst p46_25 ?_
    refine Gs_zret p46_26 rfl (by first | exact Or.inl rfl | exact Or.inr rfl | (split <;> first | exact Or.inl rfl | exact Or.inr rfl)) ⟨_, rfl, ?_⟩
    first
      | exact ⟨(if_neg (fun q => by omega)).symm, rfl⟩
      | exact ⟨(if_pos ⟨by omega, h18⟩).symm, rfl⟩
      | exact ⟨(if_neg (fun q => h18 q.2)).symm, rfl⟩
  · refine Gs_aload_n p46_11 rfl rfl ?_
    refine Gs_getR p46_12 (by first | rfl | assumption | exact (show isTale _ from by assumption).1 | exact (show isCamp _ _ from by assumption).1 | exact (show isRow _ _ from by assumption).1) (by rfl) ?_
    refine Gs_callV0I p46_15 (by rfl) (by rfl) (by rfl) (Nat.le_of_ble_eq_true rfl) (by decide) (c_tellsAll h ok) (by omega) ?_
    refine Gs_ifb_eq (tgt := 25) p46_18 (by rfl) (fun h18 => ?_) (fun h18 => ?_)
    · refine Gs_iconst p46_25 ?_
      refine Gs_zret p46_26 rfl (by first | exact Or.inl rfl | exact Or.inr rfl | (split <;> first | exact Or.inl rfl | exact Or.inr rfl)) ⟨_, rfl, ?_⟩
      first
        | exact ⟨(if_neg (fun q => by omega)).symm, rfl⟩
        | exact ⟨(if_pos ⟨by omega, h18⟩).symm, rfl⟩
        | exact ⟨(if_neg (fun q => h18 q.2)).symm, rfl⟩
    · refine Gs_iconst p46_21 ?_
      refine Gs_goto (tgt := 26) p46_22 (by rfl) ?_
      refine Gs_zret p46_26 rfl (by first | exact Or.inl rfl | exact Or.inr rfl | (split <;> first | exact Or.inl rfl | exact Or.inr rfl)) ⟨_, rfl, ?_⟩
      first
        | exact ⟨(if_neg (fun q => by omega)).symm, rfl⟩
        | exact ⟨(if_pos ⟨by omega, h18⟩).symm, rfl⟩
        | exact ⟨(if_neg (fun q => h18 q.2)).symm, rfl⟩

set_option maxHeartbeats 1000000 in
set_option maxRecDepth 4000 in
theorem c_rtale {X : vX} {s : St}  : OkR X 0 44 [.ref 54] s (IsR 57 s) := by
  refine Ok.of (r := vm_m44) (ls := [some (.ref 54)]) rfl (Nat.le_of_ble_eq_true rfl) rfl (fun d hd => ?_)
  refine Gs_aload_n p44_0 rfl rfl ?_
  refine Gs_getR p44_1 (by first | rfl | assumption | exact (show isTale _ from by assumption).1 | exact (show isCamp _ _ from by assumption).1 | exact (show isRow _ _ from by assumption).1) (by rfl) ?_
  refine Gs_aret (n := 0) p44_4 rfl ⟨_, rfl, ?_⟩
  exact ⟨rfl, rfl⟩

set_option maxHeartbeats 1000000 in
set_option maxRecDepth 4000 in
theorem c_rcamp {X : vX} {s : St}  : OkR X 0 45 [.ref 54] s (IsR 66 s) := by
  refine Ok.of (r := vm_m45) (ls := [some (.ref 54)]) rfl (Nat.le_of_ble_eq_true rfl) rfl (fun d hd => ?_)
  refine Gs_aload_n p45_0 rfl rfl ?_
  refine Gs_getR p45_1 (by first | rfl | assumption | exact (show isTale _ from by assumption).1 | exact (show isCamp _ _ from by assumption).1 | exact (show isRow _ _ from by assumption).1) (by rfl) ?_
  refine Gs_aret (n := 0) p45_4 rfl ⟨_, rfl, ?_⟩
  exact ⟨rfl, rfl⟩

theorem row6 : isRow 6 36 := ⟨rfl, rfl, by decide⟩
theorem row8 : isRow 8 8 := ⟨rfl, rfl, by decide⟩
set_option maxHeartbeats 1000000 in
set_option maxRecDepth 4000 in
theorem c_tbecome {X : vX} {s : St} {A : AS} (h : RC s A) (ok : AOk A) : OkV X 3 72 [.ref 5, .ref 57] s (Is0 (sCopy (sCopy (sF s 5 4 A.L) 6 58) 8 60)) := by
  refine Ok.of (r := vm_m72) (ls := [some (.ref 5), some (.ref 57)]) rfl (Nat.le_of_ble_eq_true rfl) rfl (fun d hd => ?_)
  obtain ⟨⟨g1, g2, g3⟩, ⟨g4, g5⟩, g6⟩ := id h
  obtain ⟨a1, a2, a3, a4, a5, a6, a7⟩ := id ok
  refine Gs_aload_n p72_0 rfl rfl ?_
  refine Gs_aload_n p72_1 rfl rfl ?_
  refine Gs_getI p72_2 (by first | rfl | assumption | exact (show isTale _ from by assumption).1 | exact (show isCamp _ _ from by assumption).1 | exact (show isRow _ _ from by assumption).1) (by rfl) ?_
  rw [g1]
  refine Gs_putI p72_5 (by first | rfl | assumption | exact (show isTale _ from by assumption).1 | exact (show isCamp _ _ from by assumption).1 | exact (show isRow _ _ from by assumption).1) (by rfl) (by rfl) (by rfl) ?_
  refine Gs_aload_n p72_8 rfl rfl ?_
  refine Gs_getR p72_9 (by first | rfl | assumption | exact (show isTale _ from by assumption).1 | exact (show isCamp _ _ from by assumption).1 | exact (show isRow _ _ from by assumption).1) (by rfl) ?_
  refine Gs_aload_n p72_12 rfl rfl ?_
  refine Gs_getR p72_13 (by first | rfl | assumption | exact (show isTale _ from by assumption).1 | exact (show isCamp _ _ from by assumption).1 | exact (show isRow _ _ from by assumption).1) (by rfl) ?_
  refine Gs_callV1W p72_16 (by rfl) (by rfl) (by rfl) (Nat.le_of_ble_eq_true rfl) (by decide) (c_become row6 row58 (by decide) (by decide) (show 0 ≤ vF s 58 1 by omega) (show vF s 58 1 ≤ ((36 : Nat) : Int) by omega) (show vF s 58 1 ≤ ((36 : Nat) : Int) by omega)) (by omega) ?_
  refine Gs_aload_n p72_19 rfl rfl ?_
  refine Gs_getR p72_20 (by first | rfl | assumption | exact (show isTale _ from by assumption).1 | exact (show isCamp _ _ from by assumption).1 | exact (show isRow _ _ from by assumption).1) (by rfl) ?_
  refine Gs_aload_n p72_23 rfl rfl ?_
  refine Gs_getR p72_24 (by first | rfl | assumption | exact (show isTale _ from by assumption).1 | exact (show isCamp _ _ from by assumption).1 | exact (show isRow _ _ from by assumption).1) (by rfl) ?_
  refine Gs_callV1W p72_27 (by rfl) (by rfl) (by rfl) (Nat.le_of_ble_eq_true rfl) (by decide) (c_become row8 row60 (by decide) (by decide) (show 0 ≤ vF s 60 1 by omega) (show vF s 60 1 ≤ ((8 : Nat) : Int) by omega) (show vF s 60 1 ≤ ((8 : Nat) : Int) by omega)) (by omega) ?_
  refine Gs_vret p72_30 rfl ⟨rfl, ?_⟩
  exact rfl

set_option maxHeartbeats 1000000 in
set_option maxRecDepth 4000 in
theorem c_pclear {X : vX} {s : St}  : OkV X 0 66 [.ref 20] s (Is0 (sF s 20 2 0)) := by
  refine Ok.of (r := vm_m66) (ls := [some (.ref 20)]) rfl (Nat.le_of_ble_eq_true rfl) rfl (fun d hd => ?_)
  refine Gs_aload_n p66_0 rfl rfl ?_
  refine Gs_iconst p66_1 ?_
  refine Gs_putI p66_2 (by first | rfl | assumption | exact (show isTale _ from by assumption).1 | exact (show isCamp _ _ from by assumption).1 | exact (show isRow _ _ from by assumption).1) (by rfl) (by rfl) (by rfl) ?_
  refine Gs_vret p66_5 rfl ⟨rfl, ?_⟩
  exact rfl

set_option maxHeartbeats 1000000 in
set_option maxRecDepth 4000 in
theorem c_kclear {X : vX} {s : St}  : OkV X 0 66 [.ref 46] s (Is0 (sF s 46 2 0)) := by
  refine Ok.of (r := vm_m66) (ls := [some (.ref 46)]) rfl (Nat.le_of_ble_eq_true rfl) rfl (fun d hd => ?_)
  refine Gs_aload_n p66_0 rfl rfl ?_
  refine Gs_iconst p66_1 ?_
  refine Gs_putI p66_2 (by first | rfl | assumption | exact (show isTale _ from by assumption).1 | exact (show isCamp _ _ from by assumption).1 | exact (show isRow _ _ from by assumption).1) (by rfl) (by rfl) (by rfl) ?_
  refine Gs_vret p66_5 rfl ⟨rfl, ?_⟩
  exact rfl

def laidS (u : St) (A : AS) : St := sF (sF (sF (cpC (sCopy (sCopy (sF u 5 4 A.L) 6 58) 8 60) 14 66) 3 1 0) 20 2 0) 46 2 0
abbrev layOk (R : Int × AS) : Prop := R.1 = -4 ∧ 1 ≤ R.2.N ∧ toldOk R.2 (4 * R.2.L).toNat
set_option maxHeartbeats 4000000 in
set_option maxRecDepth 4000 in
theorem c_layText {X : vX} {s : St} {ch : Int → Int} {n : Int} (t : RText s ch) (hn : vF s 1 1 = n) : OkI X 6 121 [.ref 0] s (fun z u => z = (if layOk (rdF ch n 200 0 A0) then 1 else 0) ∧ (¬ layOk (rdF ch n 200 0 A0) → FrR s u) ∧ (layOk (rdF ch n 200 0 A0) → ∃ y : St, FrR s y ∧ RC y (rdF ch n 200 0 A0).2 ∧ u = laidS y (rdF ch n 200 0 A0).2)) := by
  refine Ok.of (r := vm_m121) (ls := [some (.ref 0)]) rfl (Nat.le_of_ble_eq_true rfl) rfl (fun d hd => ?_)
  have ro := rdF_ok (ch := ch) (n := n) 200 0 A0 A0_ok (by omega)
  have n2 := t.2.1
  refine Gs_aload_n p121_0 rfl rfl ?_
  refine Gs_getR p121_1 (by first | rfl | assumption | exact (show isTale _ from by assumption).1 | exact (show isCamp _ _ from by assumption).1 | exact (show isRow _ _ from by assumption).1) (by rfl) ?_
  refine Gs_callV0i p121_4 (by rfl) (by rfl) (by rfl) (Nat.le_of_ble_eq_true rfl) (by decide) (c_firstFault t hn) (by omega) (fun z4 s4 h4 => ?_)
  refine Gs_bipush p121_7 (by decide) ?_
  refine Gs_icmp_ne (tgt := 22) p121_9 (by rfl) (by rw [h4.1]; exact ⟨by omega, by omega⟩) ⟨by omega, by omega⟩ (fun h9 => ?_) (fun h9 => ?_)
  · refine Gs_iconst p121_22 ?_
    refine Gs_zret p121_23 rfl (by first | exact Or.inl rfl | exact Or.inr rfl | (split <;> first | exact Or.inl rfl | exact Or.inr rfl)) ⟨_, rfl, ?_⟩
    first
      | (have no : ¬ layOk (rdF ch n 200 0 A0) := fun q => h9 (h4.1.trans q.1)
         exact ⟨(if_neg no).symm, fun _ => h4.2.1, fun q => absurd q no⟩)
      | (have no : ¬ layOk (rdF ch n 200 0 A0) := fun q => h19 q.2
         exact ⟨(if_neg no).symm, fun _ => h4.2.1, fun q => absurd q no⟩)
  · refine Gs_aload_n p121_12 rfl rfl ?_
    refine Gs_getR p121_13 (by first | rfl | assumption | exact (show isTale _ from by assumption).1 | exact (show isCamp _ _ from by assumption).1 | exact (show isRow _ _ from by assumption).1) (by rfl) ?_
    refine Gs_callV0I p121_16 (by rfl) (by rfl) (by rfl) (Nat.le_of_ble_eq_true rfl) (by decide) (c_readAWhole (h4.2.2 (h4.1.symm.trans (Decidable.not_not.mp h9))) ro.1) (by omega) ?_
    refine Gs_ifb_ne (tgt := 24) p121_19 (by rfl) (fun h19 => ?_) (fun h19 => ?_)
    · refine Gs_aload_n p121_24 rfl rfl ?_
      refine Gs_getR p121_25 (by first | rfl | assumption | exact (show isTale _ from by assumption).1 | exact (show isCamp _ _ from by assumption).1 | exact (show isRow _ _ from by assumption).1) (by rfl) ?_
      refine Gs_aload_n p121_28 rfl rfl ?_
      refine Gs_getR p121_29 (by first | rfl | assumption | exact (show isTale _ from by assumption).1 | exact (show isCamp _ _ from by assumption).1 | exact (show isRow _ _ from by assumption).1) (by rfl) ?_
      refine Gs_callV0R p121_32 (by rfl) (by rfl) (by rfl) (Nat.le_of_ble_eq_true rfl) (by decide) (c_rtale) (by omega) ?_
      refine Gs_callV1W p121_35 (by rfl) (by rfl) (by rfl) (Nat.le_of_ble_eq_true rfl) (by decide) (c_tbecome (h4.2.2 (h4.1.symm.trans (Decidable.not_not.mp h9))) ro.1) (by omega) ?_
      refine Gs_aload_n p121_38 rfl rfl ?_
      refine Gs_getR p121_39 (by first | rfl | assumption | exact (show isTale _ from by assumption).1 | exact (show isCamp _ _ from by assumption).1 | exact (show isRow _ _ from by assumption).1) (by rfl) ?_
      refine Gs_aload_n p121_42 rfl rfl ?_
      refine Gs_getR p121_43 (by first | rfl | assumption | exact (show isTale _ from by assumption).1 | exact (show isCamp _ _ from by assumption).1 | exact (show isRow _ _ from by assumption).1) (by rfl) ?_
      refine Gs_callV0R p121_46 (by rfl) (by rfl) (by rfl) (Nat.le_of_ble_eq_true rfl) (by decide) (c_rcamp) (by omega) ?_
      refine Gs_callV1W p121_49 (by rfl) (by rfl) (by rfl) (Nat.le_of_ble_eq_true rfl) (by decide) (c_Cbecome (n := (rdF ch n 200 0 A0).2.N) camp14 camp66 (((h4.2.2 (h4.1.symm.trans (Decidable.not_not.mp h9))).cong (fun a z e => by rcases e with e | e | e <;> (subst e; rfl)) (fun a k e => by rcases e with ⟨e, e2⟩ | e | e | e | e <;> (subst e; first | (subst e2; rfl) | rfl)) : RC (sCopy (sCopy (sF s4 5 4 (rdF ch n 200 0 A0).2.L) 6 58) 8 60) (rdF ch n 200 0 A0).2).camp ro.1) (by decide) (by decide) (by decide) (by decide)) (by omega) ?_
      refine Gs_aload_n p121_52 rfl rfl ?_
      refine Gs_getR p121_53 (by first | rfl | assumption | exact (show isTale _ from by assumption).1 | exact (show isCamp _ _ from by assumption).1 | exact (show isRow _ _ from by assumption).1) (by rfl) ?_
      refine Gs_callV0W p121_56 (by rfl) (by rfl) (by rfl) (Nat.le_of_ble_eq_true rfl) (by decide) (c_clear row3) (by omega) ?_
      refine Gs_aload_n p121_59 rfl rfl ?_
      refine Gs_getR p121_60 (by first | rfl | assumption | exact (show isTale _ from by assumption).1 | exact (show isCamp _ _ from by assumption).1 | exact (show isRow _ _ from by assumption).1) (by rfl) ?_
      refine Gs_callV0W p121_63 (by rfl) (by rfl) (by rfl) (Nat.le_of_ble_eq_true rfl) (by decide) (c_pclear) (by omega) ?_
      refine Gs_aload_n p121_66 rfl rfl ?_
      refine Gs_getR p121_67 (by first | rfl | assumption | exact (show isTale _ from by assumption).1 | exact (show isCamp _ _ from by assumption).1 | exact (show isRow _ _ from by assumption).1) (by rfl) ?_
      refine Gs_callV0W p121_70 (by rfl) (by rfl) (by rfl) (Nat.le_of_ble_eq_true rfl) (by decide) (c_kclear) (by omega) ?_
      refine Gs_iconst p121_73 ?_
      refine Gs_zret p121_74 rfl (by first | exact Or.inl rfl | exact Or.inr rfl | (split <;> first | exact Or.inl rfl | exact Or.inr rfl)) ⟨_, rfl, ?_⟩
      have yes : layOk (rdF ch n 200 0 A0) := ⟨h4.1.symm.trans (Decidable.not_not.mp h9), h19⟩
      exact ⟨(if_pos yes).symm, fun q => absurd yes q, fun _ => ⟨s4, h4.2.1, h4.2.2 (h4.1.symm.trans (Decidable.not_not.mp h9)), rfl⟩⟩
    · refine Gs_iconst p121_22 ?_
      refine Gs_zret p121_23 rfl (by first | exact Or.inl rfl | exact Or.inr rfl | (split <;> first | exact Or.inl rfl | exact Or.inr rfl)) ⟨_, rfl, ?_⟩
      first
        | (have no : ¬ layOk (rdF ch n 200 0 A0) := fun q => h9 (h4.1.trans q.1)
           exact ⟨(if_neg no).symm, fun _ => h4.2.1, fun q => absurd q no⟩)
        | (have no : ¬ layOk (rdF ch n 200 0 A0) := fun q => h19 q.2
           exact ⟨(if_neg no).symm, fun _ => h4.2.1, fun q => absurd q no⟩)

theorem laid_camp {y : St} {A : AS} (h : RC y A) (ok : AOk A) : CampOk (laidS y A) 14 A.N := by
  have e := RC.camp h ok
  refine ⟨e.1, e.2.1, e.2.2.1, e.2.2.2.1, e.2.2.2.2.1, fun k w k0 k1 w0 w1 => ?_⟩
  have g := e.2.2.2.2.2 k w k0 k1 w0 w1
  show loW w ≤ (if (16 : Nat) = 16 ∧ 0 ≤ k * 8 + w ∧ k * 8 + w < vF y 67 1 then vA y 68 (k * 8 + w) else vA y 16 (k * 8 + w)) ∧ (if (16 : Nat) = 16 ∧ 0 ≤ k * 8 + w ∧ k * 8 + w < vF y 67 1 then vA y 68 (k * 8 + w) else vA y 16 (k * 8 + w)) ≤ hiW w
  rw [if_pos ⟨rfl, by omega, by have := h.2.2.1; omega⟩]
  exact g
set_option maxHeartbeats 4000000 in
set_option maxRecDepth 4000 in
theorem c_lay {X : vX} {s : St} {ch : Int → Int} {n : Int} (t : RText s ch) (hn : vF s 1 1 = n) : OkI X 7 96 [.ref 0] s (fun z u => z = (if layOk (rdF ch n 200 0 A0) then (rdF ch n 200 0 A0).2.N else -2) ∧ (¬ layOk (rdF ch n 200 0 A0) → FrR s u) ∧ (layOk (rdF ch n 200 0 A0) → ∃ y : St, FrR s y ∧ RC y (rdF ch n 200 0 A0).2 ∧ u = laidS y (rdF ch n 200 0 A0).2)) := by
  refine Ok.of (r := vm_m96) (ls := [some (.ref 0)]) rfl (Nat.le_of_ble_eq_true rfl) rfl (fun d hd => ?_)
  have ro := rdF_ok (ch := ch) (n := n) 200 0 A0 A0_ok (by omega)
  refine Gs_aload_n p96_0 rfl rfl ?_
  refine Gs_callV0i p96_1 (by rfl) (by rfl) (by rfl) (Nat.le_of_ble_eq_true rfl) (by decide) (c_layText t hn) (by omega) (fun z1 s1 h1 => ?_)
  rw [h1.1]
  refine Gs_ifb_eq (tgt := 17) p96_4 (by rfl) (fun h4 => ?_) (fun h4 => ?_)
  · refine Gs_bipush p96_17 (by decide) ?_
    refine Gs_iret p96_19 rfl ⟨_, rfl, ?_⟩
    first
      | exact ⟨(if_pos h4).symm, fun q => absurd h4 q, fun _ => ⟨y, oy, rcy, rfl⟩⟩
      | exact ⟨(if_neg h4).symm, h1.2.1, fun q => absurd q h4⟩
  · obtain ⟨y, oy, rcy, ey⟩ := h1.2.2 h4
    subst ey
    refine Gs_aload_n p96_7 rfl rfl ?_
    refine Gs_getR p96_8 (by first | rfl | assumption | exact (show isTale _ from by assumption).1 | exact (show isCamp _ _ from by assumption).1 | exact (show isRow _ _ from by assumption).1) (by rfl) ?_
    refine Gs_callV0I p96_11 (by rfl) (by rfl) (by rfl) (Nat.le_of_ble_eq_true rfl) (by decide) (c_companies camp14 (laid_camp rcy ro.1)) (by omega) ?_
    refine Gs_goto (tgt := 19) p96_14 (by rfl) ?_
    refine Gs_iret p96_19 rfl ⟨_, rfl, ?_⟩
    first
      | exact ⟨(if_pos h4).symm, fun q => absurd h4 q, fun _ => ⟨y, oy, rcy, rfl⟩⟩
      | exact ⟨(if_neg h4).symm, h1.2.1, fun q => absurd q h4⟩
