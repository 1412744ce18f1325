/-! the reader, the class' side: a company, an item, all items -/
theorem c_told {X : vX} {u : St} {j x : Int} (e5 : vF u 55 1 = 6) (j0 : 0 ≤ j) (j1 : j < 6) (e : vA u 56 j = x) : OkI X 0 59 [.ref 55, .int (iI j)] u (Is1 x u) := by
  have h := c_aget (X := X) (s := u) (a := 56) row55 rfl (p := j) ⟨by omega, by omega⟩ (by omega) (by omega)
  rw [if_pos ⟨j0, by omega⟩, e] at h
  exact h
theorem coV_mid (v : Nat → Int) {i : Int} (h0 : 0 ≤ i) (h1 : i < 4) : coV v (2 + i) = v (2 + i.toNat) := by
  unfold coV
  rw [if_neg (by omega), if_neg (by omega), if_pos (by omega), show (2 + i).toNat = 2 + i.toNat by omega]
set_option maxHeartbeats 4000000 in
set_option maxRecDepth 4000 in
theorem c_addCompany {X : vX} {s : St} {A : AS} (h : RC s A) (ok : AOk A) {v : Nat → Int} (e5 : vF s 55 1 = 6) (hv : ∀ j : Nat, (j : Int) < 6 → vA s 56 j = v j) (hb : ∀ j : Nat, j < 6 → 0 ≤ v j ∧ v j ≤ 99) : OkI X 1 3 [.ref 66, .ref 55] s (fun z t => z = (if A.N < 4 ∧ cOk A.L v then 1 else 0) ∧ FrR s t ∧ vF t 54 4 = vF s 54 4 ∧ (A.N < 4 ∧ cOk A.L v → RC t (A.aC v))) := by
  refine Ok.of (r := vm_m3) (ls := [some (.ref 66), some (.ref 55), none]) rfl (Nat.le_of_ble_eq_true rfl) rfl (fun d hd => ?_)
  obtain ⟨⟨g1, g2, g3⟩, ⟨g4, g5⟩, g6, g7, g8⟩ := id h
  obtain ⟨a1, a2, a3, a4, a5, a6, a7⟩ := id ok
  have v0 : vA s 56 0 = v 0 := hv 0 (by omega)
  have v1 : vA s 56 1 = v 1 := hv 1 (by omega)
  have b0 := hb 0 (by omega)
  have b1 := hb 1 (by omega)
  refine Gs_aload_n p3_0 rfl rfl ?_
  refine Gs_getR p3_1 (by first | rfl | assumption | exact (show isTale _ from by assumption).1 | exact (show isCamp _ _ from by assumption).1 | exact (show isRow _ _ from by assumption).1) (by rfl) ?_
  refine Gs_callV0I p3_4 (by rfl) (by rfl) (by rfl) (Nat.le_of_ble_eq_true rfl) (by decide) (c_isFull row67 (show rg (vF s 67 1) from ⟨by omega, by omega⟩)) (by omega) ?_
  refine Gs_ifb_ne (tgt := 39) p3_7 (by rfl) (fun h7 => ?_) (fun h7 => ?_)
  · refine Gs_iconst p3_39 ?_
    refine Gs_zret p3_40 rfl (by first | exact Or.inl rfl | exact Or.inr rfl | (split <;> first | exact Or.inl rfl | exact Or.inr rfl)) ⟨_, rfl, ?_⟩
    exact ⟨(if_neg (fun q => by have := q.1; have := q.2.1; have := q.2.2.1; omega)).symm, FrR.rfl', rfl, fun q => absurd q (fun q => by have := q.1; have := q.2.1; have := q.2.2.1; omega)⟩
  · refine Gs_aload_n p3_10 rfl rfl ?_
    refine Gs_getR p3_11 (by first | rfl | assumption | exact (show isTale _ from by assumption).1 | exact (show isCamp _ _ from by assumption).1 | exact (show isRow _ _ from by assumption).1) (by rfl) ?_
    refine Gs_aload_n p3_14 rfl rfl ?_
    refine Gs_iconst p3_15 ?_
    refine Gs_callV1I p3_16 (by rfl) (by rfl) (by rfl) (Nat.le_of_ble_eq_true rfl) (by decide) (c_told e5 (by omega) (by omega) v0) (by omega) ?_
    refine Gs_callV1I p3_19 (by rfl) (by rfl) (by rfl) (Nat.le_of_ble_eq_true rfl) (by decide) (c_isLine tale57 (h.tale ok) ⟨by omega, by omega⟩) (by omega) ?_
    rw [g1]
    refine Gs_ifb_eq (tgt := 39) p3_22 (by rfl) (fun h22 => ?_) (fun h22 => ?_)
    · refine Gs_iconst p3_39 ?_
      refine Gs_zret p3_40 rfl (by first | exact Or.inl rfl | exact Or.inr rfl | (split <;> first | exact Or.inl rfl | exact Or.inr rfl)) ⟨_, rfl, ?_⟩
      exact ⟨(if_neg (fun q => by have := q.1; have := q.2.1; have := q.2.2.1; omega)).symm, FrR.rfl', rfl, fun q => absurd q (fun q => by have := q.1; have := q.2.1; have := q.2.2.1; omega)⟩
    · refine Gs_aload_n p3_25 rfl rfl ?_
      refine Gs_iconst p3_26 ?_
      refine Gs_callV1I p3_27 (by rfl) (by rfl) (by rfl) (Nat.le_of_ble_eq_true rfl) (by decide) (c_told e5 (by omega) (by omega) v1) (by omega) ?_
      refine Gs_iconst p3_30 ?_
      refine Gs_bipush p3_31 (by decide) ?_
      refine Gs_callS3I p3_33 (by rfl) (Nat.le_of_ble_eq_true rfl) (by decide) (c_within ⟨by omega, by omega⟩ ⟨by omega, by omega⟩ ⟨by omega, by omega⟩) (by omega) ?_
      refine Gs_ifb_ne (tgt := 41) p3_36 (by rfl) (fun h36 => ?_) (fun h36 => ?_)
      · refine Gs_iconst p3_41 ?_
        refine Gs_ist2 p3_42 (by first | rfl | assumption) ?_
        refine dn (n := (4 : Int)) (P := fun i => (∀ w : Nat, (w : Int) < i → v (2 + w) ≤ 9) → Gs X d 3 43 [some (.ref 66), some (.ref 55), some (.int (iI i))] [] (s) (fun vv yy => ∃ zz : Int, vv = some (.int (iI zz)) ∧ (fun z t => z = (if A.N < 4 ∧ cOk A.L v then 1 else 0) ∧ FrR s t ∧ vF t 54 4 = vF s 54 4 ∧ (A.N < 4 ∧ cOk A.L v → RC t (A.aC v))) zz yy)) (by omega) (fun i hi hin ih => ?_) ?_ (fun w hw => absurd hw (by omega))
        · show (∀ w : Nat, (w : Int) < i → v (2 + w) ≤ 9) → Gs X d 3 43 [some (.ref 66), some (.ref 55), some (.int (iI i))] [] (s) _
          intro hlog
          have vi : vA s 56 (2 + i) = v (2 + i.toNat) := by rw [← hv (2 + i.toNat) (by omega), show ((2 + i.toNat : Nat) : Int) = 2 + i by omega]
          have vb := hb (2 + i.toNat) (by omega)
          refine Gs_iload_n p3_43 rfl rfl ?_
          refine Gs_iconst p3_44 ?_
          refine Gs_icmp_ge (tgt := 72) p3_45 (by rfl) (by first | assumption | exact ⟨by omega, by omega⟩ | (split <;> exact ⟨by omega, by omega⟩)) (by first | assumption | exact ⟨by omega, by omega⟩ | (split <;> exact ⟨by omega, by omega⟩)) (fun hc45 => absurd ‹_› (by first | omega | assumption)) (fun hc45 => ?_)
          refine Gs_aload_n p3_48 rfl rfl ?_
          refine Gs_iconst p3_49 ?_
          refine Gs_iload_n p3_50 rfl rfl ?_
          refine Gs_iadd p3_51 ?_
          refine Gs_callV1I p3_52 (by rfl) (by rfl) (by rfl) (Nat.le_of_ble_eq_true rfl) (by decide) (c_told e5 (by omega) (by omega) vi) (by omega) ?_
          refine Gs_iconst p3_55 ?_
          refine Gs_bipush p3_56 (by decide) ?_
          refine Gs_callS3I p3_58 (by rfl) (Nat.le_of_ble_eq_true rfl) (by decide) (c_within ⟨by omega, by omega⟩ ⟨by omega, by omega⟩ ⟨by omega, by omega⟩) (by omega) ?_
          refine Gs_ifb_ne (tgt := 66) p3_61 (by rfl) (fun h61 => ?_) (fun h61 => ?_)
          · refine Gs_iinc2 (b52 := none) p3_66 (by first | rfl | assumption) ?_
            refine Gs_goto (tgt := 43) p3_69 (by rfl) ?_
            refine ih (fun w hw => ?_)
            by_cases c : (w : Int) = i
            · rw [show w = i.toNat by omega]; omega
            · exact hlog w (by omega)
          · refine Gs_iconst p3_64 ?_
            refine Gs_zret p3_65 rfl (by first | exact Or.inl rfl | exact Or.inr rfl | (split <;> first | exact Or.inl rfl | exact Or.inr rfl)) ⟨_, rfl, ?_⟩
            exact ⟨(if_neg (fun q => by have := q.2.2.2 i.toNat (by omega); omega)).symm, FrR.rfl', rfl, fun q => absurd q (fun q => by have := q.2.2.2 i.toNat (by omega); omega)⟩
        · show (∀ w : Nat, (w : Int) < ((4 : Int)) → v (2 + w) ≤ 9) → Gs X d 3 43 [some (.ref 66), some (.ref 55), some (.int (iI ((4 : Int))))] [] (s) _
          intro hlog
          refine Gs_iload_n p3_43 rfl rfl ?_
          refine Gs_iconst p3_44 ?_
          refine Gs_icmp_ge (tgt := 72) p3_45 (by rfl) (by first | assumption | exact ⟨by omega, by omega⟩ | (split <;> exact ⟨by omega, by omega⟩)) (by first | assumption | exact ⟨by omega, by omega⟩ | (split <;> exact ⟨by omega, by omega⟩)) (fun hc45 => ?_) (fun hc45 => absurd ‹_› (by first | omega | assumption))
          refine Gs_aload_n p3_72 rfl rfl ?_
          refine Gs_getR p3_73 (by first | rfl | assumption | exact (show isTale _ from by assumption).1 | exact (show isCamp _ _ from by assumption).1 | exact (show isRow _ _ from by assumption).1) (by rfl) ?_
          refine Gs_aload_n p3_76 rfl rfl ?_
          refine Gs_iconst p3_77 ?_
          refine Gs_callV1I p3_78 (by rfl) (by rfl) (by rfl) (Nat.le_of_ble_eq_true rfl) (by decide) (c_told e5 (by omega) (by omega) v1) (by omega) ?_
          refine Gs_callV1W p3_81 (by rfl) (by rfl) (by rfl) (Nat.le_of_ble_eq_true rfl) (by decide) (c_aadd (a := 68) row67 rfl (by omega) (show vF s 67 1 < ((32 : Nat) : Int) by omega)) (by omega) ?_
          refine Gs_aload_n p3_84 rfl rfl ?_
          refine Gs_getR p3_85 (by first | rfl | assumption | exact (show isTale _ from by assumption).1 | exact (show isCamp _ _ from by assumption).1 | exact (show isRow _ _ from by assumption).1) (by rfl) ?_
          refine Gs_aload_n p3_88 rfl rfl ?_
          refine Gs_iconst p3_89 ?_
          refine Gs_callV1I p3_90 (by rfl) (by rfl) (by rfl) (Nat.le_of_ble_eq_true rfl) (by decide) (c_told e5 (by omega) (by omega) v0) (by omega) ?_
          refine Gs_callV1W p3_93 (by rfl) (by rfl) (by rfl) (Nat.le_of_ble_eq_true rfl) (by decide) (c_aadd (a := 68) row67 rfl (show 0 ≤ vF s 67 1 + 1 by omega) (show vF s 67 1 + 1 < ((32 : Nat) : Int) by omega)) (by omega) ?_
          refine Gs_iconst p3_96 ?_
          refine Gs_ist2 p3_97 (by first | rfl | assumption) ?_
          refine dn (n := (4 : Int)) (P := fun i => ∀ y : St, (∀ a z, a ≠ 68 → vA y a z = vA s a z) → (∀ a k, ¬ (a = 67 ∧ k = 1) → vF y a k = vF s a k) → vF y 67 1 = 8 * A.N + 2 + i → (∀ j : Int, 0 ≤ j → j < 8 * A.N + 2 + i → vA y 68 j = (if 8 * A.N ≤ j then coV v (j - 8 * A.N) else vA s 68 j)) → Gs X d 3 98 [some (.ref 66), some (.ref 55), some (.int (iI i))] [] (y) (fun vv yy => ∃ zz : Int, vv = some (.int (iI zz)) ∧ (fun z t => z = (if A.N < 4 ∧ cOk A.L v then 1 else 0) ∧ FrR s t ∧ vF t 54 4 = vF s 54 4 ∧ (A.N < 4 ∧ cOk A.L v → RC t (A.aC v))) zz yy)) (by omega) (fun i hi hin ih => ?_) ?_ _ (fun a z x => by rw [vA_sF, vA_sA, if_neg (fun q => x q.1), vA_sF, vA_sA, if_neg (fun q => x q.1)]) (fun a k x => by rw [vF_sF, if_neg x, vF_sA, vF_sF, if_neg x, vF_sA]) (show vF s 67 1 + 1 + 1 = _ by omega) (fun j j0 j1 => ?_)
          · show ∀ y : St, (∀ a z, a ≠ 68 → vA y a z = vA s a z) → (∀ a k, ¬ (a = 67 ∧ k = 1) → vF y a k = vF s a k) → vF y 67 1 = 8 * A.N + 2 + i → (∀ j : Int, 0 ≤ j → j < 8 * A.N + 2 + i → vA y 68 j = (if 8 * A.N ≤ j then coV v (j - 8 * A.N) else vA s 68 j)) → Gs X d 3 98 [some (.ref 66), some (.ref 55), some (.int (iI i))] [] (y) _
            intro y oA oF e8 hj
            have e5y : vF y 55 1 = 6 := (oF _ _ (by decide)).trans e5
            have vi : vA s 56 (2 + i) = v (2 + i.toNat) := by rw [← hv (2 + i.toNat) (by omega), show ((2 + i.toNat : Nat) : Int) = 2 + i by omega]
            have vb := hb (2 + i.toNat) (by omega)
            refine Gs_iload_n p3_98 rfl rfl ?_
            refine Gs_iconst p3_99 ?_
            refine Gs_icmp_ge (tgt := 123) p3_100 (by rfl) (by first | assumption | exact ⟨by omega, by omega⟩ | (split <;> exact ⟨by omega, by omega⟩)) (by first | assumption | exact ⟨by omega, by omega⟩ | (split <;> exact ⟨by omega, by omega⟩)) (fun hc100 => absurd ‹_› (by first | omega | assumption)) (fun hc100 => ?_)
            refine Gs_aload_n p3_103 rfl rfl ?_
            refine Gs_getR p3_104 (by first | rfl | assumption | exact (show isTale _ from by assumption).1 | exact (show isCamp _ _ from by assumption).1 | exact (show isRow _ _ from by assumption).1) (by rfl) ?_
            refine Gs_aload_n p3_107 rfl rfl ?_
            refine Gs_iconst p3_108 ?_
            refine Gs_iload_n p3_109 rfl rfl ?_
            refine Gs_iadd p3_110 ?_
            refine Gs_callV1I p3_111 (by rfl) (by rfl) (by rfl) (Nat.le_of_ble_eq_true rfl) (by decide) (c_told e5y (by omega) (by omega) ((oA _ _ (by decide)).trans vi)) (by omega) ?_
            refine Gs_callV1W p3_114 (by rfl) (by rfl) (by rfl) (Nat.le_of_ble_eq_true rfl) (by decide) (c_aadd (a := 68) row67 rfl (by omega) (show vF y 67 1 < ((32 : Nat) : Int) by omega)) (by omega) ?_
            refine Gs_iinc2 (b52 := none) p3_117 (by first | rfl | assumption) ?_
            refine Gs_goto (tgt := 98) p3_120 (by rfl) ?_
            refine ih _ (fun a z x => by rw [vA_sF, vA_sA, if_neg (fun q => x q.1)]; exact oA a z x) (fun a k x => by rw [vF_sF, if_neg x, vF_sA]; exact oF a k x) (by rw [vF_sF, if_pos ⟨rfl, rfl⟩]; omega) (fun j j0 j1 => ?_)
            rw [vA_sF, vA_sA]
            by_cases c : j = vF y 67 1
            · rw [if_pos ⟨rfl, c⟩, if_pos (by omega), show j - 8 * A.N = 2 + i by omega, coV_mid v hi hin]
            · rw [if_neg (fun q => c q.2)]; exact hj j j0 (by omega)
          · show ∀ y : St, (∀ a z, a ≠ 68 → vA y a z = vA s a z) → (∀ a k, ¬ (a = 67 ∧ k = 1) → vF y a k = vF s a k) → vF y 67 1 = 8 * A.N + 2 + ((4 : Int)) → (∀ j : Int, 0 ≤ j → j < 8 * A.N + 2 + ((4 : Int)) → vA y 68 j = (if 8 * A.N ≤ j then coV v (j - 8 * A.N) else vA s 68 j)) → Gs X d 3 98 [some (.ref 66), some (.ref 55), some (.int (iI ((4 : Int))))] [] (y) _
            intro y oA oF e8 hj
            refine Gs_iload_n p3_98 rfl rfl ?_
            refine Gs_iconst p3_99 ?_
            refine Gs_icmp_ge (tgt := 123) p3_100 (by rfl) (by first | assumption | exact ⟨by omega, by omega⟩ | (split <;> exact ⟨by omega, by omega⟩)) (by first | assumption | exact ⟨by omega, by omega⟩ | (split <;> exact ⟨by omega, by omega⟩)) (fun hc100 => ?_) (fun hc100 => absurd ‹_› (by first | omega | assumption))
            refine Gs_aload_n p3_123 rfl rfl ?_
            refine Gs_getR p3_124 (by first | rfl | assumption | exact (show isTale _ from by assumption).1 | exact (show isCamp _ _ from by assumption).1 | exact (show isRow _ _ from by assumption).1) (by rfl) ?_
            refine Gs_bipush p3_127 (by decide) ?_
            refine Gs_callV1W p3_129 (by rfl) (by rfl) (by rfl) (Nat.le_of_ble_eq_true rfl) (by decide) (c_aadd (a := 68) row67 rfl (by omega) (show vF y 67 1 < ((32 : Nat) : Int) by omega)) (by omega) ?_
            refine Gs_aload_n p3_132 rfl rfl ?_
            refine Gs_getR p3_133 (by first | rfl | assumption | exact (show isTale _ from by assumption).1 | exact (show isCamp _ _ from by assumption).1 | exact (show isRow _ _ from by assumption).1) (by rfl) ?_
            refine Gs_iconst p3_136 ?_
            refine Gs_callV1W p3_137 (by rfl) (by rfl) (by rfl) (Nat.le_of_ble_eq_true rfl) (by decide) (c_aadd (a := 68) row67 rfl (show 0 ≤ vF y 67 1 + 1 by omega) (show vF y 67 1 + 1 < ((32 : Nat) : Int) by omega)) (by omega) ?_
            refine Gs_iconst p3_140 ?_
            refine Gs_zret p3_141 rfl (by first | exact Or.inl rfl | exact Or.inr rfl | (split <;> first | exact Or.inl rfl | exact Or.inr rfl)) ⟨_, rfl, ?_⟩
            have GO : A.N < 4 ∧ cOk A.L v := ⟨by omega, by omega, by omega, fun w hw => hlog w (by omega)⟩
            refine ⟨(if_pos GO).symm, ⟨fun a z e => by rw [vA_sF, vA_sA, if_neg (by omega), vA_sF, vA_sA, if_neg (by omega)]; exact oA a z (by omega), fun a k e => by rw [vF_sF, if_neg (by omega), vF_sA, vF_sF, if_neg (by omega), vF_sA]; exact oF a k (by omega)⟩, by rw [vF_sF, if_neg (by decide), vF_sA, vF_sF, if_neg (by decide), vF_sA]; exact oF _ _ (by decide), fun _ => ?_⟩
            refine ⟨⟨?_, ?_, fun j j0 j1 => ?_⟩, ⟨?_, fun j j0 j1 => ?_⟩, ?_, fun k w k0 k1 w0 w1 => ?_, ?_⟩
            · exact (oF 57 4 (by decide)).trans g1
            · exact (oF 58 1 (by decide)).trans g2
            · exact (oA 59 j (by decide)).trans (g3 j j0 j1)
            · exact (oF 60 1 (by decide)).trans g4
            · exact (oA 61 j (by decide)).trans (g5 j j0 j1)
            · show vF y 67 1 + 1 + 1 = 8 * (A.N + 1); omega
            · have k1' : k < A.N + 1 := k1
              rw [aC_cm]
              show (if (68 : Nat) = 68 ∧ k * 8 + w = vF y 67 1 + 1 then 0 else if (68 : Nat) = 68 ∧ k * 8 + w = vF y 67 1 then -4 else vA y 68 (k * 8 + w)) = _
              by_cases c : k = A.N
              · rw [if_pos c]
                by_cases w7 : w = 7
                · rw [if_pos ⟨rfl, by omega⟩, w7]; rfl
                · rw [if_neg (by omega)]
                  by_cases w6 : w = 6
                  · rw [if_pos ⟨rfl, by omega⟩, w6]; rfl
                  · rw [if_neg (by omega), hj _ (by omega) (by omega), if_pos (by omega), show k * 8 + w - 8 * A.N = w by omega]
              · rw [if_neg c, if_neg (by omega), if_neg (by omega), hj _ (by omega) (by omega), if_neg (by omega)]
                exact g7 k w k0 (by omega) w0 w1
            · exact (oF 66 2 (by decide)).trans g8
          · show (if (68 : Nat) = 68 ∧ j = vF s 67 1 + 1 then v 0 else if (68 : Nat) = 68 ∧ j = vF s 67 1 then v 1 else vA s 68 j) = _
            by_cases c1 : j = vF s 67 1 + 1
            · rw [if_pos ⟨rfl, c1⟩, if_pos (by omega), show j - 8 * A.N = 1 by omega]; rfl
            · rw [if_neg (by omega)]
              by_cases c0 : j = vF s 67 1
              · rw [if_pos ⟨rfl, c0⟩, if_pos (by omega), show j - 8 * A.N = 0 by omega]; rfl
              · rw [if_neg (by omega), if_neg (by omega)]
      · refine Gs_iconst p3_39 ?_
        refine Gs_zret p3_40 rfl (by first | exact Or.inl rfl | exact Or.inr rfl | (split <;> first | exact Or.inl rfl | exact Or.inr rfl)) ⟨_, rfl, ?_⟩
        exact ⟨(if_neg (fun q => by have := q.1; have := q.2.1; have := q.2.2.1; omega)).symm, FrR.rfl', rfl, fun q => absurd q (fun q => by have := q.1; have := q.2.1; have := q.2.2.1; omega)⟩

set_option maxHeartbeats 1000000 in
set_option maxRecDepth 4000 in
theorem c_tclear {X : vX} {s : St}  : OkV X 1 71 [.ref 57] s (Is0 (sF (sF (sF s 57 4 0) 58 1 0) 60 1 0)) := by
  refine Ok.of (r := vm_m71) (ls := [some (.ref 57)]) rfl (Nat.le_of_ble_eq_true rfl) rfl (fun d hd => ?_)
  refine Gs_aload_n p71_0 rfl rfl ?_
  refine Gs_iconst p71_1 ?_
  refine Gs_putI p71_2 (by first | rfl | assumption | exact (show isTale _ from by assumption).1 | exact (show isCamp _ _ from by assumption).1 | exact (show isRow _ _ from by assumption).1) (by rfl) (by rfl) (by rfl) ?_
  refine Gs_aload_n p71_5 rfl rfl ?_
  refine Gs_getR p71_6 (by first | rfl | assumption | exact (show isTale _ from by assumption).1 | exact (show isCamp _ _ from by assumption).1 | exact (show isRow _ _ from by assumption).1) (by rfl) ?_
  refine Gs_callV0W p71_9 (by rfl) (by rfl) (by rfl) (Nat.le_of_ble_eq_true rfl) (by decide) (c_clear row58) (by omega) ?_
  refine Gs_aload_n p71_12 rfl rfl ?_
  refine Gs_getR p71_13 (by first | rfl | assumption | exact (show isTale _ from by assumption).1 | exact (show isCamp _ _ from by assumption).1 | exact (show isRow _ _ from by assumption).1) (by rfl) ?_
  refine Gs_callV0W p71_16 (by rfl) (by rfl) (by rfl) (Nat.le_of_ble_eq_true rfl) (by decide) (c_clear row60) (by omega) ?_
  refine Gs_vret p71_19 rfl ⟨rfl, ?_⟩
  exact rfl

set_option maxHeartbeats 1000000 in
set_option maxRecDepth 4000 in
theorem c_cclear {X : vX} {s : St}  : OkV X 1 1 [.ref 66] s (Is0 (sF (sF s 67 1 0) 66 2 0)) := by
  refine Ok.of (r := vm_m1) (ls := [some (.ref 66)]) rfl (Nat.le_of_ble_eq_true rfl) rfl (fun d hd => ?_)
  refine Gs_aload_n p1_0 rfl rfl ?_
  refine Gs_getR p1_1 (by first | rfl | assumption | exact (show isTale _ from by assumption).1 | exact (show isCamp _ _ from by assumption).1 | exact (show isRow _ _ from by assumption).1) (by rfl) ?_
  refine Gs_callV0W p1_4 (by rfl) (by rfl) (by rfl) (Nat.le_of_ble_eq_true rfl) (by decide) (c_clear row67) (by omega) ?_
  refine Gs_aload_n p1_7 rfl rfl ?_
  refine Gs_iconst p1_8 ?_
  refine Gs_putI p1_9 (by first | rfl | assumption | exact (show isTale _ from by assumption).1 | exact (show isCamp _ _ from by assumption).1 | exact (show isRow _ _ from by assumption).1) (by rfl) (by rfl) (by rfl) ?_
  refine Gs_vret p1_12 rfl ⟨rfl, ?_⟩
  exact rfl
