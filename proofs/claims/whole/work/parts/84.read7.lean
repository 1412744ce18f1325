/-! the reader, the reference's side: a line, an amount, a company -/
set_option maxHeartbeats 4000000 in
set_option maxRecDepth 4000 in
theorem c_mline {X : vX} {s : St} {A : AS} (m : RM s A) (ok : AOk A) (l9 : A.L < 9) {x : Int} (x0 : 0 ≤ x) (x1 : x ≤ 9999) {v : Int → Int} (hv : ∀ j : Nat, j < 4 → qt x j % 10 = v (3 - j)) : OkV X 0 131 [.ref 97, .int (iI x)] s (fun u => (∀ a z, a ≠ 97 → vA u a z = vA s a z) ∧ (∀ a k, vF u a k = vF s a k) ∧ RM u (A.aL v)) := by
  refine Ok.of (r := vm_m131) (ls := [some (.ref 97), some (.int (iI x)), none, none]) rfl (Nat.le_of_ble_eq_true rfl) rfl (fun d hd => ?_)
  obtain ⟨⟨m0, m1, m2⟩, m3, m4, m5⟩ := id m
  obtain ⟨a1, a2, a3, a4, a5, a6, a7⟩ := id ok
  refine Gs_iload_n p131_0 rfl rfl ?_
  refine Gs_ist2 p131_1 (by first | rfl | assumption) ?_
  refine Gs_iconst p131_2 ?_
  refine Gs_ist3 p131_3 (by first | rfl | assumption) ?_
  refine dn (n := (4 : Int)) (P := fun i => ∀ y : St, (∀ a z, ¬ (a = 97 ∧ 3 + 4 * A.L ≤ z ∧ z ≤ 6 + 4 * A.L) → vA y a z = vA s a z) → (∀ a k, vF y a k = vF s a k) → (∀ j : Nat, (j : Int) < i → vA y 97 (6 + 4 * A.L - j) = qt x j % 10) → Gs X d 131 4 [some (.ref 97), some (.int (iI x)), some (.int (iI (qt x i.toNat))), some (.int (iI (3 - i)))] [] (y) (fun vv yy => vv = none ∧ (fun u => (∀ a z, a ≠ 97 → vA u a z = vA s a z) ∧ (∀ a k, vF u a k = vF s a k) ∧ RM u (A.aL v)) yy)) (by omega) (fun i hi hin ih => ?_) ?_ _ (fun _ _ _ => rfl) (fun _ _ => rfl) (fun j q => absurd q (by omega))
  · show ∀ y : St, (∀ a z, ¬ (a = 97 ∧ 3 + 4 * A.L ≤ z ∧ z ≤ 6 + 4 * A.L) → vA y a z = vA s a z) → (∀ a k, vF y a k = vF s a k) → (∀ j : Nat, (j : Int) < i → vA y 97 (6 + 4 * A.L - j) = qt x j % 10) → Gs X d 131 4 [some (.ref 97), some (.int (iI x)), some (.int (iI (qt x i.toNat))), some (.int (iI (3 - i)))] [] (y) _
    intro y oA oF hj
    have qb := qt_b x0 x1 i.toNat
    have es : qt x (i + 1).toNat = qt x i.toNat / 10 := by rw [show (i + 1).toNat = i.toNat + 1 by omega]; rfl
    refine Gs_iload_n p131_4 rfl rfl ?_
    refine Gs_if_lt (tgt := 34) p131_5 (by rfl) (by first | assumption | exact ⟨by omega, by omega⟩ | (split <;> exact ⟨by omega, by omega⟩)) (fun hc5 => absurd ‹_› (by first | omega | assumption)) (fun hc5 => ?_)
    refine Gs_aload_n p131_8 rfl rfl ?_
    refine Gs_iconst p131_9 ?_
    refine Gs_iconst p131_10 ?_
    refine Gs_aload_n p131_11 rfl rfl ?_
    refine Gs_iconst p131_12 ?_
    refine Gs_iald p131_13 (by first | rfl | assumption | exact (show isTale _ from by assumption).1 | exact (show isCamp _ _ from by assumption).1 | exact (show isRow _ _ from by assumption).1) (by omega) (by omega) (by omega) ?_
    rw [oA 97 0 (by omega), m0]
    refine Gs_imul p131_14 ?_
    refine Gs_iadd p131_15 ?_
    refine Gs_iload_n p131_16 rfl rfl ?_
    refine Gs_iadd p131_17 ?_
    refine Gs_iload_n p131_18 rfl rfl ?_
    refine Gs_bipush p131_19 (by decide) ?_
    refine Gs_irem p131_21 (by omega) (by omega) (by omega) (by omega) ?_
    refine Gs_iast p131_22 (by first | rfl | assumption | exact (show isTale _ from by assumption).1 | exact (show isCamp _ _ from by assumption).1 | exact (show isRow _ _ from by assumption).1) (by omega) (by omega) (by omega) ?_
    refine Gs_iload_n p131_23 rfl rfl ?_
    refine Gs_bipush p131_24 (by decide) ?_
    refine Gs_idiv p131_26 (by omega) (by omega) (by omega) (by omega) ?_
    rw [← es]
    refine Gs_ist2 p131_27 (by first | rfl | assumption) ?_
    refine Gs_iinc3 (b53 := none) p131_28 (by first | rfl | assumption) ?_
    refine Gs_goto (tgt := 4) p131_31 (by rfl) ?_
    rw [show (3 - i + -1 : Int) = 3 - (i + 1) by omega]
    refine ih _ (fun a z x => by rw [vA_sA, if_neg (by omega)]; exact oA a z x) (fun a k => by rw [vF_sA]; exact oF a k) (fun j hj' => ?_)
    rw [vA_sA]
    by_cases c : (j : Int) = i
    · rw [if_pos ⟨rfl, by omega⟩, show j = i.toNat by omega]
    · rw [if_neg (by omega)]; exact hj j (by omega)
  · show ∀ y : St, (∀ a z, ¬ (a = 97 ∧ 3 + 4 * A.L ≤ z ∧ z ≤ 6 + 4 * A.L) → vA y a z = vA s a z) → (∀ a k, vF y a k = vF s a k) → (∀ j : Nat, (j : Int) < ((4 : Int)) → vA y 97 (6 + 4 * A.L - j) = qt x j % 10) → Gs X d 131 4 [some (.ref 97), some (.int (iI x)), some (.int (iI (qt x ((4 : Int)).toNat))), some (.int (iI (3 - ((4 : Int)))))] [] (y) _
    intro y oA oF hj
    refine Gs_iload_n p131_4 rfl rfl ?_
    refine Gs_if_lt (tgt := 34) p131_5 (by rfl) (by first | assumption | exact ⟨by omega, by omega⟩ | (split <;> exact ⟨by omega, by omega⟩)) (fun hc5 => ?_) (fun hc5 => absurd ‹_› (by first | omega | assumption))
    refine Gs_aload_n p131_34 rfl rfl ?_
    refine Gs_iconst p131_35 ?_
    refine Gs_dup2 p131_36 rfl rfl ?_
    refine Gs_iald p131_37 (by first | rfl | assumption | exact (show isTale _ from by assumption).1 | exact (show isCamp _ _ from by assumption).1 | exact (show isRow _ _ from by assumption).1) (by omega) (by omega) (by omega) ?_
    refine Gs_iconst p131_38 ?_
    refine Gs_iadd p131_39 ?_
    refine Gs_iast p131_40 (by first | rfl | assumption | exact (show isTale _ from by assumption).1 | exact (show isCamp _ _ from by assumption).1 | exact (show isRow _ _ from by assumption).1) (by omega) (by omega) (by omega) ?_
    refine Gs_vret p131_41 rfl ⟨rfl, ?_⟩
    refine ⟨fun a z x => by rw [vA_sA, if_neg (fun q => x q.1)]; exact oA a z (fun q => x q.1), fun a k => oF a k, ⟨?_, ?_, ?_⟩, fun j j0 j1 => ?_, fun j j0 j1 => ?_, fun k k0 k1 => ?_⟩
    · rw [vA_sA, if_pos ⟨rfl, rfl⟩, oA 97 0 (by omega), m0]; rfl
    · rw [vA_sA, if_neg (by omega), oA 97 1 (by omega), m1]; rfl
    · rw [vA_sA, if_neg (by omega), oA 97 2 (by omega), m2]; rfl
    · have j1' : j < 4 * (A.L + 1) := j1
      rw [vA_sA, if_neg (by omega), aL_nx]
      by_cases c : 4 * A.L ≤ j
      · rw [if_pos c]
        have e := hj (4 * A.L + 3 - j).toNat (by omega)
        rw [hv _ (by omega), show 6 + 4 * A.L - (((4 * A.L + 3 - j).toNat : Nat) : Int) = 3 + j by omega, show (3 : Int) - (((4 * A.L + 3 - j).toNat : Nat) : Int) = j - 4 * A.L by omega] at e
        exact e
      · rw [if_neg c, oA 97 _ (by omega)]; exact m3 j j0 (by omega)
    · have j1' : j < A.R := j1
      rw [vA_sA, if_neg (by omega), oA 97 _ (by omega)]; exact m4 j j0 j1'
    · have k1' : k < A.N := k1
      have g := m5 k k0 k1'
      refine ⟨?_, ?_, fun w w0 w1 => ?_⟩
      · rw [vA_sA, if_neg (by omega), oA 97 _ (by omega)]; exact g.1
      · rw [vA_sA, if_neg (by omega), oA 97 _ (by omega)]; exact g.2.1
      · rw [vA_sA, if_neg (by omega), oA 97 _ (by omega)]; exact g.2.2 w w0 w1

set_option maxHeartbeats 4000000 in
set_option maxRecDepth 4000 in
theorem c_readsLine {X : vX} {s : St} {ch : Int → Int} {n p : Int} (t : MTx s ch n) (hp : vF s 95 12 = p) (p0 : 0 ≤ p) (p1 : p ≤ 100000) {A : AS} (m : RM s A) (ok : AOk A) : OkI X 2 140 [.ref 95] s (fun z u => z = (if ((∀ j : Nat, j < 4 → ¬ fg (ch (p + j)) = -4) ∧ A.L < 9) then 1 else 0) ∧ FrM s u ∧ (((∀ j : Nat, j < 4 → ¬ fg (ch (p + j)) = -4) ∧ A.L < 9) → vF u 95 12 = p + 4 ∧ RM u (A.aL (fun j => fg (ch (p + j)))))) := by
  refine Ok.of (r := vm_m140) (ls := [some (.ref 95), none, none]) rfl (Nat.le_of_ble_eq_true rfl) rfl (fun d hd => ?_)
  obtain ⟨⟨m0, m1, m2⟩, m3⟩ := id m
  obtain ⟨a1, a2, a3⟩ := id ok
  refine Gs_iconst p140_0 ?_
  refine Gs_ist1 p140_1 (by first | rfl | assumption) ?_
  refine Gs_iconst p140_2 ?_
  refine Gs_ist2 p140_3 (by first | rfl | assumption) ?_
  refine dn (n := (4 : Int)) (P := fun i => ∀ y : St, FrP s y → vF y 95 12 = p + i → (∀ j : Nat, (j : Int) < i → ¬ fg (ch (p + j)) = -4) → Gs X d 140 4 [some (.ref 95), some (.int (iI (pkG (fun j => fg (ch (p + j))) i.toNat))), some (.int (iI i))] [] (y) (fun vv yy => ∃ zz : Int, vv = some (.int (iI zz)) ∧ (fun z u => z = (if ((∀ j : Nat, j < 4 → ¬ fg (ch (p + j)) = -4) ∧ A.L < 9) then 1 else 0) ∧ FrM s u ∧ (((∀ j : Nat, j < 4 → ¬ fg (ch (p + j)) = -4) ∧ A.L < 9) → vF u 95 12 = p + 4 ∧ RM u (A.aL (fun j => fg (ch (p + j)))))) zz yy)) (by omega) (fun i hi hin ih => ?_) ?_ _ FrP.rfl' (by omega) (fun j q => absurd q (by omega))
  · show ∀ y : St, FrP s y → vF y 95 12 = p + i → (∀ j : Nat, (j : Int) < i → ¬ fg (ch (p + j)) = -4) → Gs X d 140 4 [some (.ref 95), some (.int (iI (pkG (fun j => fg (ch (p + j))) i.toNat))), some (.int (iI i))] [] (y) _
    intro y o yp hj
    have hb := hM_b (t.2.2.2.2.2 (p + i))
    have t2 := o.txt t
    refine Gs_aload_n p140_4 rfl rfl ?_
    refine Gs_callV0I p140_5 (by rfl) (by rfl) (by rfl) (Nat.le_of_ble_eq_true rfl) (by decide) (c_here t2 yp (by omega) (by omega)) (by omega) ?_
    refine Gs_callS1I p140_8 (by rfl) (Nat.le_of_ble_eq_true rfl) (by decide) (c_mFig ⟨by omega, by omega⟩) (by omega) ?_
    refine Gs_ifb_eq (tgt := 48) p140_11 (by rfl) (fun h11 => ?_) (fun h11 => ?_)
    · refine Gs_iload_n p140_48 rfl rfl ?_
      refine Gs_iconst p140_49 ?_
      refine Gs_icmp_lt (tgt := 64) p140_50 (by rfl) (by first | assumption | exact ⟨by omega, by omega⟩ | (split <;> exact ⟨by omega, by omega⟩)) (by first | assumption | exact ⟨by omega, by omega⟩ | (split <;> exact ⟨by omega, by omega⟩)) (fun h50 => ?_) (fun h50 => absurd ‹_› (by first | omega | assumption))
      refine Gs_iconst p140_64 ?_
      refine Gs_zret p140_65 rfl (by first | exact Or.inl rfl | exact Or.inr rfl | (split <;> first | exact Or.inl rfl | exact Or.inr rfl)) ⟨_, rfl, ?_⟩
      have g11 := hM_no (Decidable.not_not.mp h11)
      refine ⟨(if_neg (fun q => ?_)).symm, o.m, fun q => ?_⟩
      · have := q.1 i.toNat (by omega); rw [show ((i.toNat : Nat) : Int) = i by omega] at this; exact this g11
      · have := q.1 i.toNat (by omega); rw [show ((i.toNat : Nat) : Int) = i by omega] at this; exact absurd g11 this
    · refine Gs_iload_n p140_14 rfl rfl ?_
      refine Gs_iconst p140_15 ?_
      refine Gs_icmp_ge (tgt := 48) p140_16 (by rfl) (by first | assumption | exact ⟨by omega, by omega⟩ | (split <;> exact ⟨by omega, by omega⟩)) (by first | assumption | exact ⟨by omega, by omega⟩ | (split <;> exact ⟨by omega, by omega⟩)) (fun hc16 => absurd ‹_› (by first | omega | assumption)) (fun hc16 => ?_)
      refine Gs_bipush p140_19 (by decide) ?_
      refine Gs_iload_n p140_21 rfl rfl ?_
      refine Gs_imul p140_22 ?_
      refine Gs_aload_n p140_23 rfl rfl ?_
      refine Gs_callV0I p140_24 (by rfl) (by rfl) (by rfl) (Nat.le_of_ble_eq_true rfl) (by decide) (c_here t2 yp (by omega) (by omega)) (by omega) ?_
      refine Gs_iadd p140_27 ?_
      refine Gs_bipush p140_28 (by decide) ?_
      refine Gs_isub p140_30 ?_
      have g11 := hM_fig h11
      rw [show 10 * pkG (fun j => fg (ch (p + j))) i.toNat + hM ch (p + i) - 48 = pkG (fun j => fg (ch (p + j))) (i + 1).toNat by rw [show (i + 1).toNat = i.toNat + 1 by omega]; show _ = 10 * pkG (fun j => fg (ch (p + j))) i.toNat + fg (ch (p + ((i.toNat : Nat) : Int))); rw [show ((i.toNat : Nat) : Int) = i by omega]; omega]
      refine Gs_ist1 p140_31 (by first | rfl | assumption) ?_
      refine Gs_iinc2 (b52 := none) p140_32 (by first | rfl | assumption) ?_
      refine Gs_aload_n p140_35 rfl rfl ?_
      refine Gs_dup p140_36 rfl ?_
      refine Gs_getI p140_37 (by first | rfl | assumption | exact (show isTale _ from by assumption).1 | exact (show isCamp _ _ from by assumption).1 | exact (show isRow _ _ from by assumption).1) (by rfl) ?_
      refine Gs_iconst p140_40 ?_
      refine Gs_iadd p140_41 ?_
      refine Gs_putI p140_42 (by first | rfl | assumption | exact (show isTale _ from by assumption).1 | exact (show isCamp _ _ from by assumption).1 | exact (show isRow _ _ from by assumption).1) (by rfl) (by rfl) (by rfl) ?_
      refine Gs_goto (tgt := 4) p140_45 (by rfl) ?_
      refine ih _ (o.trans ⟨fun _ _ => rfl, fun a k e => by rw [vF_sF, if_neg (by omega)]⟩) (by rw [vF_sF, if_pos ⟨rfl, rfl⟩, yp]; omega) (fun j hj' => ?_)
      by_cases c : (j : Int) = i
      · rw [c]; exact fun q => absurd (g11.2.1 ▸ q) (by omega)
      · exact hj j (by omega)
  · show ∀ y : St, FrP s y → vF y 95 12 = p + ((4 : Int)) → (∀ j : Nat, (j : Int) < ((4 : Int)) → ¬ fg (ch (p + j)) = -4) → Gs X d 140 4 [some (.ref 95), some (.int (iI (pkG (fun j => fg (ch (p + j))) ((4 : Int)).toNat))), some (.int (iI ((4 : Int))))] [] (y) _
    intro y o yp hj
    have hb := hM_b (t.2.2.2.2.2 (p + 4))
    have t2 := o.txt t
    refine Gs_aload_n p140_4 rfl rfl ?_
    refine Gs_callV0I p140_5 (by rfl) (by rfl) (by rfl) (Nat.le_of_ble_eq_true rfl) (by decide) (c_here t2 yp (by omega) (by omega)) (by omega) ?_
    refine Gs_callS1I p140_8 (by rfl) (Nat.le_of_ble_eq_true rfl) (by decide) (c_mFig ⟨by omega, by omega⟩) (by omega) ?_
    refine Gs_ifb_eq (tgt := 48) p140_11 (by rfl) (fun h11 => ?_) (fun h11 => ?_)
    · refine Gs_iload_n p140_48 rfl rfl ?_
      refine Gs_iconst p140_49 ?_
      refine Gs_icmp_lt (tgt := 64) p140_50 (by rfl) (by first | assumption | exact ⟨by omega, by omega⟩ | (split <;> exact ⟨by omega, by omega⟩)) (by first | assumption | exact ⟨by omega, by omega⟩ | (split <;> exact ⟨by omega, by omega⟩)) (fun h50 => absurd ‹_› (by first | omega | assumption)) (fun h50 => ?_)
      refine Gs_aload_n p140_53 rfl rfl ?_
      refine Gs_getR p140_54 (by first | rfl | assumption | exact (show isTale _ from by assumption).1 | exact (show isCamp _ _ from by assumption).1 | exact (show isRow _ _ from by assumption).1) (by rfl) ?_
      refine Gs_iconst p140_57 ?_
      refine Gs_iald p140_58 (by first | rfl | assumption | exact (show isTale _ from by assumption).1 | exact (show isCamp _ _ from by assumption).1 | exact (show isRow _ _ from by assumption).1) (by omega) (by omega) (by omega) ?_
      rw [o.1 97 0, m0]
      refine Gs_bipush p140_59 (by decide) ?_
      refine Gs_icmp_ne (tgt := 66) p140_61 (by rfl) (by first | assumption | exact ⟨by omega, by omega⟩ | (split <;> exact ⟨by omega, by omega⟩)) (by first | assumption | exact ⟨by omega, by omega⟩ | (split <;> exact ⟨by omega, by omega⟩)) (fun h61 => ?_) (fun h61 => ?_)
      · have DG : ∀ j : Nat, j < 4 → 0 ≤ (fun j : Nat => fg (ch (p + j))) j ∧ (fun j : Nat => fg (ch (p + j))) j ≤ 9 := fun j hj' => by
          have := hj j (by omega)
          have := fg_b (ch (p + j))
          show 0 ≤ fg (ch (p + j)) ∧ fg (ch (p + j)) ≤ 9
          omega
        refine Gs_aload_n p140_66 rfl rfl ?_
        refine Gs_getR p140_67 (by first | rfl | assumption | exact (show isTale _ from by assumption).1 | exact (show isCamp _ _ from by assumption).1 | exact (show isRow _ _ from by assumption).1) (by rfl) ?_
        refine Gs_iload_n p140_70 rfl rfl ?_
        refine Gs_callS2v p140_71 (by rfl) (Nat.le_of_ble_eq_true rfl) (by decide) (c_mline (m.cong (fun z => o.1 97 z)) ok (by omega) (pkG_b DG).1 (pkG_b DG).2 (v := fun j => fg (ch (p + j))) (fun j hj' => (qt_pk DG j hj').trans (by show fg (ch (p + ((3 - j : Nat) : Int))) = fg (ch (p + (3 - (j : Int)))); rw [show ((3 - j : Nat) : Int) = 3 - (j : Int) by omega]))) (by omega) (fun s71 h71 => ?_)
        refine Gs_iconst p140_74 ?_
        refine Gs_zret p140_75 rfl (by first | exact Or.inl rfl | exact Or.inr rfl | (split <;> first | exact Or.inl rfl | exact Or.inr rfl)) ⟨_, rfl, ?_⟩
        exact ⟨(if_pos ⟨fun j hj' => hj j (by omega), by omega⟩).symm, o.m.trans ⟨h71.1, fun a k _ => h71.2.1 a k⟩, fun _ => ⟨(h71.2.1 _ _).trans yp, h71.2.2⟩⟩
      · refine Gs_iconst p140_64 ?_
        refine Gs_zret p140_65 rfl (by first | exact Or.inl rfl | exact Or.inr rfl | (split <;> first | exact Or.inl rfl | exact Or.inr rfl)) ⟨_, rfl, ?_⟩
        exact ⟨(if_neg (fun q => by have := q.2; omega)).symm, o.m, fun q => by have := q.2; omega⟩
    · refine Gs_iload_n p140_14 rfl rfl ?_
      refine Gs_iconst p140_15 ?_
      refine Gs_icmp_ge (tgt := 48) p140_16 (by rfl) (by first | assumption | exact ⟨by omega, by omega⟩ | (split <;> exact ⟨by omega, by omega⟩)) (by first | assumption | exact ⟨by omega, by omega⟩ | (split <;> exact ⟨by omega, by omega⟩)) (fun hc16 => ?_) (fun hc16 => absurd ‹_› (by first | omega | assumption))
      refine Gs_iload_n p140_48 rfl rfl ?_
      refine Gs_iconst p140_49 ?_
      refine Gs_icmp_lt (tgt := 64) p140_50 (by rfl) (by first | assumption | exact ⟨by omega, by omega⟩ | (split <;> exact ⟨by omega, by omega⟩)) (by first | assumption | exact ⟨by omega, by omega⟩ | (split <;> exact ⟨by omega, by omega⟩)) (fun h50 => absurd ‹_› (by first | omega | assumption)) (fun h50 => ?_)
      refine Gs_aload_n p140_53 rfl rfl ?_
      refine Gs_getR p140_54 (by first | rfl | assumption | exact (show isTale _ from by assumption).1 | exact (show isCamp _ _ from by assumption).1 | exact (show isRow _ _ from by assumption).1) (by rfl) ?_
      refine Gs_iconst p140_57 ?_
      refine Gs_iald p140_58 (by first | rfl | assumption | exact (show isTale _ from by assumption).1 | exact (show isCamp _ _ from by assumption).1 | exact (show isRow _ _ from by assumption).1) (by omega) (by omega) (by omega) ?_
      rw [o.1 97 0, m0]
      refine Gs_bipush p140_59 (by decide) ?_
      refine Gs_icmp_ne (tgt := 66) p140_61 (by rfl) (by first | assumption | exact ⟨by omega, by omega⟩ | (split <;> exact ⟨by omega, by omega⟩)) (by first | assumption | exact ⟨by omega, by omega⟩ | (split <;> exact ⟨by omega, by omega⟩)) (fun h61 => ?_) (fun h61 => ?_)
      · have DG : ∀ j : Nat, j < 4 → 0 ≤ (fun j : Nat => fg (ch (p + j))) j ∧ (fun j : Nat => fg (ch (p + j))) j ≤ 9 := fun j hj' => by
          have := hj j (by omega)
          have := fg_b (ch (p + j))
          show 0 ≤ fg (ch (p + j)) ∧ fg (ch (p + j)) ≤ 9
          omega
        refine Gs_aload_n p140_66 rfl rfl ?_
        refine Gs_getR p140_67 (by first | rfl | assumption | exact (show isTale _ from by assumption).1 | exact (show isCamp _ _ from by assumption).1 | exact (show isRow _ _ from by assumption).1) (by rfl) ?_
        refine Gs_iload_n p140_70 rfl rfl ?_
        refine Gs_callS2v p140_71 (by rfl) (Nat.le_of_ble_eq_true rfl) (by decide) (c_mline (m.cong (fun z => o.1 97 z)) ok (by omega) (pkG_b DG).1 (pkG_b DG).2 (v := fun j => fg (ch (p + j))) (fun j hj' => (qt_pk DG j hj').trans (by show fg (ch (p + ((3 - j : Nat) : Int))) = fg (ch (p + (3 - (j : Int)))); rw [show ((3 - j : Nat) : Int) = 3 - (j : Int) by omega]))) (by omega) (fun s71 h71 => ?_)
        refine Gs_iconst p140_74 ?_
        refine Gs_zret p140_75 rfl (by first | exact Or.inl rfl | exact Or.inr rfl | (split <;> first | exact Or.inl rfl | exact Or.inr rfl)) ⟨_, rfl, ?_⟩
        exact ⟨(if_pos ⟨fun j hj' => hj j (by omega), by omega⟩).symm, o.m.trans ⟨h71.1, fun a k _ => h71.2.1 a k⟩, fun _ => ⟨(h71.2.1 _ _).trans yp, h71.2.2⟩⟩
      · refine Gs_iconst p140_64 ?_
        refine Gs_zret p140_65 rfl (by first | exact Or.inl rfl | exact Or.inr rfl | (split <;> first | exact Or.inl rfl | exact Or.inr rfl)) ⟨_, rfl, ?_⟩
        exact ⟨(if_neg (fun q => by have := q.2; omega)).symm, o.m, fun q => by have := q.2; omega⟩

set_option maxHeartbeats 4000000 in
set_option maxRecDepth 4000 in
theorem c_readsRain {X : vX} {s : St} {ch : Int → Int} {n p : Int} (t : MTx s ch n) (hp : vF s 95 12 = p) (p0 : 0 ≤ p) (p1 : p ≤ 100000) {A : AS} (m : RM s A) (ok : AOk A) : OkI X 3 141 [.ref 95] s (fun z u => z = (if (A.R < 8 ∧ ¬ nmV ch p = -4 ∧ nmV ch p ≤ 3) then 1 else 0) ∧ FrM s u ∧ ((A.R < 8 ∧ ¬ nmV ch p = -4 ∧ nmV ch p ≤ 3) → vF u 95 12 = nmP ch p ∧ RM u (A.aR (nmV ch p)))) := by
  refine Ok.of (r := vm_m141) (ls := [some (.ref 95)]) rfl (Nat.le_of_ble_eq_true rfl) rfl (fun d hd => ?_)
  obtain ⟨⟨m0, m1, m2⟩, m3, m4, m5⟩ := id m
  obtain ⟨a1, a2, a3, a4, a5, a6, a7⟩ := id ok
  have vb := nmV_b ch p
  refine Gs_aload_n p141_0 rfl rfl ?_
  refine Gs_getR p141_1 (by first | rfl | assumption | exact (show isTale _ from by assumption).1 | exact (show isCamp _ _ from by assumption).1 | exact (show isRow _ _ from by assumption).1) (by rfl) ?_
  refine Gs_iconst p141_4 ?_
  refine Gs_iald p141_5 (by first | rfl | assumption | exact (show isTale _ from by assumption).1 | exact (show isCamp _ _ from by assumption).1 | exact (show isRow _ _ from by assumption).1) (by omega) (by omega) (by omega) ?_
  rw [m1]
  refine Gs_bipush p141_6 (by decide) ?_
  refine Gs_icmp_eq (tgt := 20) p141_8 (by rfl) (by first | assumption | exact ⟨by omega, by omega⟩ | (split <;> exact ⟨by omega, by omega⟩)) (by first | assumption | exact ⟨by omega, by omega⟩ | (split <;> exact ⟨by omega, by omega⟩)) (fun h8 => ?_) (fun h8 => ?_)
  · refine Gs_iconst p141_20 ?_
    refine Gs_zret p141_21 rfl (by first | exact Or.inl rfl | exact Or.inr rfl | (split <;> first | exact Or.inl rfl | exact Or.inr rfl)) ⟨_, rfl, ?_⟩
    first
      | exact ⟨(if_neg (fun q => by have := q.1; omega)).symm, FrP.rfl'.m, fun q => by have := q.1; omega⟩
      | exact ⟨(if_neg (fun q => h17 ⟨q.2.1, by have := q.2.1; omega, q.2.2⟩)).symm, h14.2.1.m, fun q => absurd ⟨q.2.1, by have := q.2.1; omega, q.2.2⟩ h17⟩
  · refine Gs_aload_n p141_11 rfl rfl ?_
    refine Gs_iconst p141_12 ?_
    refine Gs_iconst p141_13 ?_
    refine Gs_callV2i p141_14 (by rfl) (by rfl) (by rfl) (Nat.le_of_ble_eq_true rfl) (by decide) (c_number t hp p0 p1 (lo := 0) (hi := 3) (by omega) (by omega) (by omega) (by omega)) (by omega) (fun z14 s14 h14 => ?_)
    rw [h14.1]
    refine Gs_ifb_ne (tgt := 22) p141_17 (by rfl) (fun h17 => ?_) (fun h17 => ?_)
    · refine Gs_aload_n p141_22 rfl rfl ?_
      refine Gs_getR p141_23 (by first | rfl | assumption | exact (show isTale _ from by assumption).1 | exact (show isCamp _ _ from by assumption).1 | exact (show isRow _ _ from by assumption).1) (by rfl) ?_
      refine Gs_bipush p141_26 (by decide) ?_
      refine Gs_aload_n p141_28 rfl rfl ?_
      refine Gs_getR p141_29 (by first | rfl | assumption | exact (show isTale _ from by assumption).1 | exact (show isCamp _ _ from by assumption).1 | exact (show isRow _ _ from by assumption).1) (by rfl) ?_
      refine Gs_iconst p141_32 ?_
      refine Gs_iald p141_33 (by first | rfl | assumption | exact (show isTale _ from by assumption).1 | exact (show isCamp _ _ from by assumption).1 | exact (show isRow _ _ from by assumption).1) (by omega) (by omega) (by omega) ?_
      rw [h14.2.1.1, m1]
      refine Gs_iadd p141_34 ?_
      refine Gs_aload_n p141_35 rfl rfl ?_
      refine Gs_getI p141_36 (by first | rfl | assumption | exact (show isTale _ from by assumption).1 | exact (show isCamp _ _ from by assumption).1 | exact (show isRow _ _ from by assumption).1) (by rfl) ?_
      rw [(h14.2.2 h17.1).2]
      refine Gs_iast p141_39 (by first | rfl | assumption | exact (show isTale _ from by assumption).1 | exact (show isCamp _ _ from by assumption).1 | exact (show isRow _ _ from by assumption).1) (by omega) (by omega) (by omega) ?_
      refine Gs_aload_n p141_40 rfl rfl ?_
      refine Gs_getR p141_41 (by first | rfl | assumption | exact (show isTale _ from by assumption).1 | exact (show isCamp _ _ from by assumption).1 | exact (show isRow _ _ from by assumption).1) (by rfl) ?_
      refine Gs_iconst p141_44 ?_
      refine Gs_dup2 p141_45 rfl rfl ?_
      refine Gs_iald p141_46 (by first | rfl | assumption | exact (show isTale _ from by assumption).1 | exact (show isCamp _ _ from by assumption).1 | exact (show isRow _ _ from by assumption).1) (by omega) (by omega) (by omega) ?_
      refine Gs_iconst p141_47 ?_
      refine Gs_iadd p141_48 ?_
      refine Gs_iast p141_49 (by first | rfl | assumption | exact (show isTale _ from by assumption).1 | exact (show isCamp _ _ from by assumption).1 | exact (show isRow _ _ from by assumption).1) (by omega) (by omega) (by omega) ?_
      refine Gs_iconst p141_50 ?_
      refine Gs_zret p141_51 rfl (by first | exact Or.inl rfl | exact Or.inr rfl | (split <;> first | exact Or.inl rfl | exact Or.inr rfl)) ⟨_, rfl, ?_⟩
      refine ⟨(if_pos ⟨by omega, h17.1, h17.2.2⟩).symm, ⟨fun a z x => by rw [vA_sA, if_neg (fun q => x q.1), vA_sA, if_neg (fun q => x q.1)]; exact h14.2.1.1 a z, fun a k x => h14.2.1.2 a k x⟩, fun _ => ⟨(h14.2.2 h17.1).1, ⟨?_, ?_, ?_⟩, fun j j0 j1 => ?_, fun j j0 j1 => ?_, fun k k0 k1 => ?_⟩⟩
      · rw [vA_sA, if_neg (by omega), vA_sA, if_neg (by omega), h14.2.1.1, m0]; rfl
      · rw [vA_sA, if_pos ⟨rfl, rfl⟩, vA_sA, if_neg (by omega), h14.2.1.1, m1]; rfl
      · rw [vA_sA, if_neg (by omega), vA_sA, if_neg (by omega), h14.2.1.1, m2]; rfl
      · have j1' : j < 4 * A.L := j1
        rw [vA_sA, if_neg (by omega), vA_sA, if_neg (by omega), h14.2.1.1]; exact m3 j j0 j1'
      · have j1' : j < A.R + 1 := j1
        rw [vA_sA, if_neg (by omega), vA_sA, aR_ra]
        by_cases c : j = A.R
        · rw [if_pos ⟨rfl, by omega⟩, if_pos c]
        · rw [if_neg (by omega), if_neg c, h14.2.1.1]; exact m4 j j0 (by omega)
      · have k1' : k < A.N := k1
        have g := m5 k k0 k1'
        refine ⟨?_, ?_, fun w w0 w1 => ?_⟩
        · rw [vA_sA, if_neg (by omega), vA_sA, if_neg (by omega), h14.2.1.1]; exact g.1
        · rw [vA_sA, if_neg (by omega), vA_sA, if_neg (by omega), h14.2.1.1]; exact g.2.1
        · rw [vA_sA, if_neg (by omega), vA_sA, if_neg (by omega), h14.2.1.1]; exact g.2.2 w w0 w1
    · refine Gs_iconst p141_20 ?_
      refine Gs_zret p141_21 rfl (by first | exact Or.inl rfl | exact Or.inr rfl | (split <;> first | exact Or.inl rfl | exact Or.inr rfl)) ⟨_, rfl, ?_⟩
      first
        | exact ⟨(if_neg (fun q => by have := q.1; omega)).symm, FrP.rfl'.m, fun q => by have := q.1; omega⟩
        | exact ⟨(if_neg (fun q => h17 ⟨q.2.1, by have := q.2.1; omega, q.2.2⟩)).symm, h14.2.1.m, fun q => absurd ⟨q.2.1, by have := q.2.1; omega, q.2.2⟩ h17⟩
