/-! the reader, the reference's side: a company -/
set_option maxHeartbeats 4000000 in
set_option maxRecDepth 4000 in
theorem c_mcompany {X : vX} {s : St} {A : AS} (m : RM s A) (ok : AOk A) (n4 : A.N < 4) {x : Int} (x0 : 0 ≤ x) (x1 : x ≤ 9999) {v : Nat → Int} (hv : ∀ j : Nat, j < 4 → qt x j % 10 = v (2 + (3 - j))) : OkV X 0 132 [.ref 97, .int (iI (v 0)), .int (iI (v 1)), .int (iI x)] s (fun u => (∀ a z, a ≠ 97 → vA u a z = vA s a z) ∧ (∀ a k, vF u a k = vF s a k) ∧ RM u (A.aC v)) := by
  refine Ok.of (r := vm_m132) (ls := [some (.ref 97), some (.int (iI (v 0))), some (.int (iI (v 1))), some (.int (iI x)), none, none, none]) rfl (Nat.le_of_ble_eq_true rfl) rfl (fun d hd => ?_)
  obtain ⟨⟨m0, m1, m2⟩, m3, m4, m5⟩ := id m
  obtain ⟨a1, a2, a3, a4, a5, a6, a7⟩ := id ok
  refine Gs_aload_n p132_0 rfl rfl ?_
  refine Gs_iconst p132_1 ?_
  refine Gs_iald p132_2 (by first | rfl | assumption | exact (show isTale _ from by assumption).1 | exact (show isCamp _ _ from by assumption).1 | exact (show isRow _ _ from by assumption).1) (by omega) (by omega) (by omega) ?_
  rw [m2]
  refine Gs_ist4 p132_3 (by first | rfl | assumption) ?_
  refine Gs_iload_n p132_5 rfl rfl ?_
  refine Gs_ist5 p132_6 (by first | rfl | assumption) ?_
  refine Gs_aload_n p132_8 rfl rfl ?_
  refine Gs_bipush p132_9 (by decide) ?_
  refine Gs_iload p132_11 rfl rfl ?_
  refine Gs_iadd p132_13 ?_
  refine Gs_iload_n p132_14 rfl rfl ?_
  refine Gs_iast p132_15 (by first | rfl | assumption | exact (show isTale _ from by assumption).1 | exact (show isCamp _ _ from by assumption).1 | exact (show isRow _ _ from by assumption).1) (by omega) (by omega) (by omega) ?_
  refine Gs_aload_n p132_16 rfl rfl ?_
  refine Gs_bipush p132_17 (by decide) ?_
  refine Gs_iload p132_19 rfl rfl ?_
  refine Gs_iadd p132_21 ?_
  refine Gs_iload_n p132_22 rfl rfl ?_
  refine Gs_iast p132_23 (by first | rfl | assumption | exact (show isTale _ from by assumption).1 | exact (show isCamp _ _ from by assumption).1 | exact (show isRow _ _ from by assumption).1) (by omega) (by omega) (by omega) ?_
  refine Gs_iconst p132_24 ?_
  refine Gs_ist6 p132_25 (by first | rfl | assumption) ?_
  refine dn (n := (4 : Int)) (P := fun i => ∀ y : St, (∀ a z, a ≠ 97 → vA y a z = vA s a z) → (∀ a k, vF y a k = vF s a k) → (∀ z, ¬ z = 47 + A.N → ¬ z = 51 + A.N → ¬ (55 + 4 * A.N ≤ z ∧ z ≤ 58 + 4 * A.N) → vA y 97 z = vA s 97 z) → vA y 97 (47 + A.N) = v 0 → vA y 97 (51 + A.N) = v 1 → (∀ j : Nat, (j : Int) < i → vA y 97 (58 + 4 * A.N - j) = qt x j % 10) → Gs X d 132 27 [some (.ref 97), some (.int (iI (v 0))), some (.int (iI (v 1))), some (.int (iI x)), some (.int (iI A.N)), some (.int (iI (qt x i.toNat))), some (.int (iI (3 - i)))] [] (y) (fun vv yy => vv = none ∧ (fun u => (∀ a z, a ≠ 97 → vA u a z = vA s a z) ∧ (∀ a k, vF u a k = vF s a k) ∧ RM u (A.aC v)) yy)) (by omega) (fun i hi hin ih => ?_) ?_ (sA (sA s 97 (47 + A.N) (v 0)) 97 (51 + A.N) (v 1)) (fun a z x => by rw [vA_sA, if_neg (fun q => x q.1), vA_sA, if_neg (fun q => x q.1)]) (fun _ _ => rfl) (fun z z1 z2 z3 => by rw [vA_sA, if_neg (by omega), vA_sA, if_neg (by omega)]) (by rw [vA_sA, if_neg (by omega), vA_sA, if_pos ⟨rfl, rfl⟩]) (by rw [vA_sA, if_pos ⟨rfl, rfl⟩]) (fun j q => absurd q (by omega))
  · show ∀ y : St, (∀ a z, a ≠ 97 → vA y a z = vA s a z) → (∀ a k, vF y a k = vF s a k) → (∀ z, ¬ z = 47 + A.N → ¬ z = 51 + A.N → ¬ (55 + 4 * A.N ≤ z ∧ z ≤ 58 + 4 * A.N) → vA y 97 z = vA s 97 z) → vA y 97 (47 + A.N) = v 0 → vA y 97 (51 + A.N) = v 1 → (∀ j : Nat, (j : Int) < i → vA y 97 (58 + 4 * A.N - j) = qt x j % 10) → Gs X d 132 27 [some (.ref 97), some (.int (iI (v 0))), some (.int (iI (v 1))), some (.int (iI x)), some (.int (iI A.N)), some (.int (iI (qt x i.toNat))), some (.int (iI (3 - i)))] [] (y) _
    intro y oA oF oC e47 e51 hj
    have qb := qt_b x0 x1 i.toNat
    have es : qt x (i + 1).toNat = qt x i.toNat / 10 := by rw [show (i + 1).toNat = i.toNat + 1 by omega]; rfl
    refine Gs_iload p132_27 rfl rfl ?_
    refine Gs_if_lt (tgt := 62) p132_29 (by rfl) (by first | assumption | exact ⟨by omega, by omega⟩ | (split <;> exact ⟨by omega, by omega⟩)) (fun hc29 => absurd ‹_› (by first | omega | assumption)) (fun hc29 => ?_)
    refine Gs_aload_n p132_32 rfl rfl ?_
    refine Gs_bipush p132_33 (by decide) ?_
    refine Gs_iconst p132_35 ?_
    refine Gs_iload p132_36 rfl rfl ?_
    refine Gs_imul p132_38 ?_
    refine Gs_iadd p132_39 ?_
    refine Gs_iload p132_40 rfl rfl ?_
    refine Gs_iadd p132_42 ?_
    refine Gs_iload p132_43 rfl rfl ?_
    refine Gs_bipush p132_45 (by decide) ?_
    refine Gs_irem p132_47 (by omega) (by omega) (by omega) (by omega) ?_
    refine Gs_iast p132_48 (by first | rfl | assumption | exact (show isTale _ from by assumption).1 | exact (show isCamp _ _ from by assumption).1 | exact (show isRow _ _ from by assumption).1) (by omega) (by omega) (by omega) ?_
    refine Gs_iload p132_49 rfl rfl ?_
    refine Gs_bipush p132_51 (by decide) ?_
    refine Gs_idiv p132_53 (by omega) (by omega) (by omega) (by omega) ?_
    rw [← es]
    refine Gs_ist5 p132_54 (by first | rfl | assumption) ?_
    refine Gs_iinc6 (b56 := none) p132_56 (by first | rfl | assumption) ?_
    refine Gs_goto (tgt := 27) p132_59 (by rfl) ?_
    rw [show (3 - i + -1 : Int) = 3 - (i + 1) by omega]
    refine ih _ (fun a z x => by rw [vA_sA, if_neg (fun q => x q.1)]; exact oA a z x) (fun a k => by rw [vF_sA]; exact oF a k) (fun z z1 z2 z3 => by rw [vA_sA, if_neg (by omega)]; exact oC z z1 z2 z3) (by rw [vA_sA, if_neg (by omega)]; exact e47) (by rw [vA_sA, if_neg (by omega)]; exact e51) (fun j hj' => ?_)
    rw [vA_sA]
    by_cases c : (j : Int) = i
    · rw [if_pos ⟨rfl, by omega⟩, show j = i.toNat by omega]
    · rw [if_neg (by omega)]; exact hj j (by omega)
  · show ∀ y : St, (∀ a z, a ≠ 97 → vA y a z = vA s a z) → (∀ a k, vF y a k = vF s a k) → (∀ z, ¬ z = 47 + A.N → ¬ z = 51 + A.N → ¬ (55 + 4 * A.N ≤ z ∧ z ≤ 58 + 4 * A.N) → vA y 97 z = vA s 97 z) → vA y 97 (47 + A.N) = v 0 → vA y 97 (51 + A.N) = v 1 → (∀ j : Nat, (j : Int) < ((4 : Int)) → vA y 97 (58 + 4 * A.N - j) = qt x j % 10) → Gs X d 132 27 [some (.ref 97), some (.int (iI (v 0))), some (.int (iI (v 1))), some (.int (iI x)), some (.int (iI A.N)), some (.int (iI (qt x ((4 : Int)).toNat))), some (.int (iI (3 - ((4 : Int)))))] [] (y) _
    intro y oA oF oC e47 e51 hj
    refine Gs_iload p132_27 rfl rfl ?_
    refine Gs_if_lt (tgt := 62) p132_29 (by rfl) (by first | assumption | exact ⟨by omega, by omega⟩ | (split <;> exact ⟨by omega, by omega⟩)) (fun hc29 => ?_) (fun hc29 => absurd ‹_› (by first | omega | assumption))
    refine Gs_aload_n p132_62 rfl rfl ?_
    refine Gs_iconst p132_63 ?_
    refine Gs_dup2 p132_64 rfl rfl ?_
    refine Gs_iald p132_65 (by first | rfl | assumption | exact (show isTale _ from by assumption).1 | exact (show isCamp _ _ from by assumption).1 | exact (show isRow _ _ from by assumption).1) (by omega) (by omega) (by omega) ?_
    refine Gs_iconst p132_66 ?_
    refine Gs_iadd p132_67 ?_
    refine Gs_iast p132_68 (by first | rfl | assumption | exact (show isTale _ from by assumption).1 | exact (show isCamp _ _ from by assumption).1 | exact (show isRow _ _ from by assumption).1) (by omega) (by omega) (by omega) ?_
    refine Gs_vret p132_69 rfl ⟨rfl, ?_⟩
    have keep : ∀ z, ¬ z = 2 → ¬ z = 47 + A.N → ¬ z = 51 + A.N → ¬ (55 + 4 * A.N ≤ z ∧ z ≤ 58 + 4 * A.N) → vA (sA y 97 2 (vA y 97 2 + 1)) 97 z = vA s 97 z := fun z z0 z1 z2 z3 => by rw [vA_sA, if_neg (by omega)]; exact oC z z1 z2 z3
    refine ⟨fun a z x => by rw [vA_sA, if_neg (fun q => x q.1)]; exact oA a z x, fun a k => oF a k, ⟨?_, ?_, ?_⟩, fun j j0 j1 => ?_, fun j j0 j1 => ?_, fun k k0 k1 => ?_⟩
    · rw [keep 0 (by omega) (by omega) (by omega) (by omega), m0]; rfl
    · rw [keep 1 (by omega) (by omega) (by omega) (by omega), m1]; rfl
    · rw [vA_sA, if_pos ⟨rfl, rfl⟩, oC 2 (by omega) (by omega) (by omega), m2]; rfl
    · have j1' : j < 4 * A.L := j1
      rw [keep _ (by omega) (by omega) (by omega) (by omega)]; exact m3 j j0 j1'
    · have j1' : j < A.R := j1
      rw [keep _ (by omega) (by omega) (by omega) (by omega)]; exact m4 j j0 j1'
    · have k1' : k < A.N + 1 := k1
      simp only [aC_cm]
      by_cases c : k = A.N
      · simp only [if_pos c]
        refine ⟨?_, ?_, fun w w0 w1 => ?_⟩
        · rw [vA_sA, if_neg (by omega), c]; exact e51
        · rw [vA_sA, if_neg (by omega), c]; exact e47
        · rw [vA_sA, if_neg (by omega), coV_mid v w0 w1]
          have e := hj (3 - w).toNat (by omega)
          rw [hv _ (by omega), show 58 + 4 * A.N - (((3 - w).toNat : Nat) : Int) = 55 + 4 * k + w by omega, show 2 + (3 - (3 - w).toNat) = 2 + w.toNat by omega] at e
          exact e
      · simp only [if_neg c]
        have g := m5 k k0 (by omega)
        refine ⟨?_, ?_, fun w w0 w1 => ?_⟩
        · rw [keep _ (by omega) (by omega) (by omega) (by omega)]; exact g.1
        · rw [keep _ (by omega) (by omega) (by omega) (by omega)]; exact g.2.1
        · rw [keep _ (by omega) (by omega) (by omega) (by omega)]; exact g.2.2 w w0 w1

abbrev mcOk (ch : Int → Int) (p : Int) (A : AS) : Prop := A.N < 4 ∧ (∀ j : Nat, j < 6 → ¬ nmV ch (pS ch p j) = -4) ∧ (∀ j : Nat, j < 5 → ch (nmP ch (pS ch p j)) = 44) ∧ cOk A.L (fun i => nmV ch (pS ch p i))
set_option maxHeartbeats 4000000 in
set_option maxRecDepth 4000 in
theorem c_readsCompany {X : vX} {s : St} {ch : Int → Int} {n p : Int} (t : MTx s ch n) (hp : vF s 95 12 = p) (p0 : 0 ≤ p) (p1 : p ≤ 10000) {A : AS} (m : RM s A) (ok : AOk A) : OkI X 3 142 [.ref 95] s (fun z u => z = (if mcOk ch p A then 1 else 0) ∧ FrM s u ∧ (mcOk ch p A → vF u 95 12 = nmP ch (pS ch p 5) ∧ RM u (A.aC (fun e => nmV ch (pS ch p e))))) := by
  refine Ok.of (r := vm_m142) (ls := [some (.ref 95), none, none, none, none]) rfl (Nat.le_of_ble_eq_true rfl) rfl (fun d hd => ?_)
  obtain ⟨⟨m0, m1, m2⟩, m3⟩ := id m
  obtain ⟨a1, a2, a3, a4, a5, a6, a7⟩ := id ok
  have vb0 := nmV_b ch p
  have qb0 := nmP_b ch p
  have vb1 := nmV_b ch (pS ch p 1)
  have qb1 := nmP_b ch (pS ch p 1)
  have pb1 := pS_b ch p 1
  refine Gs_aload_n p142_0 rfl rfl ?_
  refine Gs_getR p142_1 (by first | rfl | assumption | exact (show isTale _ from by assumption).1 | exact (show isCamp _ _ from by assumption).1 | exact (show isRow _ _ from by assumption).1) (by rfl) ?_
  refine Gs_iconst p142_4 ?_
  refine Gs_iald p142_5 (by first | rfl | assumption | exact (show isTale _ from by assumption).1 | exact (show isCamp _ _ from by assumption).1 | exact (show isRow _ _ from by assumption).1) (by omega) (by omega) (by omega) ?_
  rw [m2]
  refine Gs_iconst p142_6 ?_
  refine Gs_icmp_eq (tgt := 35) p142_7 (by rfl) (by first | assumption | exact ⟨by omega, by omega⟩ | (split <;> exact ⟨by omega, by omega⟩)) (by first | assumption | exact ⟨by omega, by omega⟩ | (split <;> exact ⟨by omega, by omega⟩)) (fun h7 => ?_) (fun h7 => ?_)
  · refine Gs_iconst p142_35 ?_
    refine Gs_zret p142_36 rfl (by first | exact Or.inl rfl | exact Or.inr rfl | (split <;> first | exact Or.inl rfl | exact Or.inr rfl)) ⟨_, rfl, ?_⟩
    first
      | (have bad : ¬ mcOk ch p A := fun q => by have := q.1; omega
         exact ⟨(if_neg bad).symm, FrP.rfl'.m, fun q => absurd q bad⟩)
      | (have bad : ¬ mcOk ch p A := fun q => h32 (q.2.2.1 0 (by omega))
         exact ⟨(if_neg bad).symm, (h20.2.1.trans h29.2.1).m, fun q => absurd q bad⟩)
      | (have bad : ¬ mcOk ch p A := fun q => h23 ⟨q.2.1 0 (by omega), by have : ¬ nmV ch p = -4 := q.2.1 0 (by omega); omega, by have : nmV ch p < A.L := q.2.2.2.1; omega⟩
         exact ⟨(if_neg bad).symm, h20.2.1.m, fun q => absurd q bad⟩)
  · refine Gs_aload_n p142_10 rfl rfl ?_
    refine Gs_iconst p142_11 ?_
    refine Gs_aload_n p142_12 rfl rfl ?_
    refine Gs_getR p142_13 (by first | rfl | assumption | exact (show isTale _ from by assumption).1 | exact (show isCamp _ _ from by assumption).1 | exact (show isRow _ _ from by assumption).1) (by rfl) ?_
    refine Gs_iconst p142_16 ?_
    refine Gs_iald p142_17 (by first | rfl | assumption | exact (show isTale _ from by assumption).1 | exact (show isCamp _ _ from by assumption).1 | exact (show isRow _ _ from by assumption).1) (by omega) (by omega) (by omega) ?_
    rw [m0]
    refine Gs_iconst p142_18 ?_
    refine Gs_isub p142_19 ?_
    refine Gs_callV2i p142_20 (by rfl) (by rfl) (by rfl) (Nat.le_of_ble_eq_true rfl) (by decide) (c_number (lo := 0) (hi := A.L - 1) t hp p0 (by omega) (by omega) (by omega) (by omega) (by omega)) (by omega) (fun z20 s20 h20 => ?_)
    rw [h20.1]
    refine Gs_ifb_eq (tgt := 35) p142_23 (by rfl) (fun h23 => ?_) (fun h23 => ?_)
    · refine Gs_iconst p142_35 ?_
      refine Gs_zret p142_36 rfl (by first | exact Or.inl rfl | exact Or.inr rfl | (split <;> first | exact Or.inl rfl | exact Or.inr rfl)) ⟨_, rfl, ?_⟩
      first
        | (have bad : ¬ mcOk ch p A := fun q => by have := q.1; omega
           exact ⟨(if_neg bad).symm, FrP.rfl'.m, fun q => absurd q bad⟩)
        | (have bad : ¬ mcOk ch p A := fun q => h32 (q.2.2.1 0 (by omega))
           exact ⟨(if_neg bad).symm, (h20.2.1.trans h29.2.1).m, fun q => absurd q bad⟩)
        | (have bad : ¬ mcOk ch p A := fun q => h23 ⟨q.2.1 0 (by omega), by have : ¬ nmV ch p = -4 := q.2.1 0 (by omega); omega, by have : nmV ch p < A.L := q.2.2.2.1; omega⟩
           exact ⟨(if_neg bad).symm, h20.2.1.m, fun q => absurd q bad⟩)
    · refine Gs_aload_n p142_26 rfl rfl ?_
      refine Gs_bipush p142_27 (by decide) ?_
      refine Gs_callV1i p142_29 (by rfl) (by rfl) (by rfl) (Nat.le_of_ble_eq_true rfl) (by decide) (c_takes (c := 44) (h20.2.1.txt t) (h20.2.2 h23.1).1 (by omega) (by omega) (by omega) (by omega)) (by omega) (fun z29 s29 h29 => ?_)
      rw [h29.1]
      refine Gs_ifb_ne (tgt := 37) p142_32 (by rfl) (fun h32 => ?_) (fun h32 => ?_)
      · refine Gs_aload_n p142_37 rfl rfl ?_
        refine Gs_getI p142_38 (by first | rfl | assumption | exact (show isTale _ from by assumption).1 | exact (show isCamp _ _ from by assumption).1 | exact (show isRow _ _ from by assumption).1) (by rfl) ?_
        rw [(h29.2.2 h32).2, (h20.2.2 h23.1).2]
        refine Gs_ist1 p142_41 (by first | rfl | assumption) ?_
        refine Gs_aload_n p142_42 rfl rfl ?_
        refine Gs_iconst p142_43 ?_
        refine Gs_bipush p142_44 (by decide) ?_
        refine Gs_callV2i p142_46 (by rfl) (by rfl) (by rfl) (Nat.le_of_ble_eq_true rfl) (by decide) (c_number (lo := 1) (hi := 20) ((h20.2.1.trans h29.2.1).txt t) (p := pS ch p 1) (h29.2.2 h32).1 (by omega) (by omega) (by omega) (by omega) (by omega) (by omega)) (by omega) (fun z46 s46 h46 => ?_)
        rw [h46.1]
        refine Gs_ifb_ne (tgt := 54) p142_49 (by rfl) (fun h49 => ?_) (fun h49 => ?_)
        · refine Gs_aload_n p142_54 rfl rfl ?_
          refine Gs_getI p142_55 (by first | rfl | assumption | exact (show isTale _ from by assumption).1 | exact (show isCamp _ _ from by assumption).1 | exact (show isRow _ _ from by assumption).1) (by rfl) ?_
          rw [(h46.2.2 h49.1).2]
          refine Gs_ist2 p142_58 (by first | rfl | assumption) ?_
          refine Gs_iconst p142_59 ?_
          refine Gs_ist3 p142_60 (by first | rfl | assumption) ?_
          refine Gs_iconst p142_61 ?_
          refine Gs_ist4 p142_62 (by first | rfl | assumption) ?_
          refine dn (n := (4 : Int)) (P := fun i => ∀ y : St, FrP s y → vF y 95 12 = nmP ch (pS ch p (i.toNat + 1)) → (∀ j : Nat, (j : Int) < i → ch (nmP ch (pS ch p (j + 1))) = 44 ∧ ¬ nmV ch (pS ch p (2 + j)) = -4 ∧ nmV ch (pS ch p (2 + j)) ≤ 9) → Gs X d 142 64 [some (.ref 95), some (.int (iI ((fun e => nmV ch (pS ch p e)) 0))), some (.int (iI ((fun e => nmV ch (pS ch p e)) 1))), some (.int (iI (pkG (fun j => nmV ch (pS ch p (2 + j))) i.toNat))), some (.int (iI i))] [] (y) (fun vv yy => ∃ zz : Int, vv = some (.int (iI zz)) ∧ (fun z u => z = (if mcOk ch p A then 1 else 0) ∧ FrM s u ∧ (mcOk ch p A → vF u 95 12 = nmP ch (pS ch p 5) ∧ RM u (A.aC (fun e => nmV ch (pS ch p e))))) zz yy)) (by omega) (fun i hi hin ih => ?_) ?_ _ (h20.2.1.trans (h29.2.1.trans h46.2.1)) (h46.2.2 h49.1).1 (fun j q => absurd q (by omega))
          · show ∀ y : St, FrP s y → vF y 95 12 = nmP ch (pS ch p (i.toNat + 1)) → (∀ j : Nat, (j : Int) < i → ch (nmP ch (pS ch p (j + 1))) = 44 ∧ ¬ nmV ch (pS ch p (2 + j)) = -4 ∧ nmV ch (pS ch p (2 + j)) ≤ 9) → Gs X d 142 64 [some (.ref 95), some (.int (iI ((fun e => nmV ch (pS ch p e)) 0))), some (.int (iI ((fun e => nmV ch (pS ch p e)) 1))), some (.int (iI (pkG (fun j => nmV ch (pS ch p (2 + j))) i.toNat))), some (.int (iI i))] [] (y) _
            intro y o yp hj
            have t2 := o.txt t
            have pb1 := pS_b ch p (i.toNat + 1)
            have qb1 := nmP_b ch (pS ch p (i.toNat + 1))
            have e2 : pS ch p (2 + i.toNat) = nmP ch (pS ch p (i.toNat + 1)) + 1 := by rw [show 2 + i.toNat = (i.toNat + 1) + 1 by omega]; rfl
            have vb2 := nmV_b ch (pS ch p (2 + i.toNat))
            refine Gs_iload p142_64 rfl rfl ?_
            refine Gs_iconst p142_66 ?_
            refine Gs_icmp_ge (tgt := 107) p142_67 (by rfl) (by first | assumption | exact ⟨by omega, by omega⟩ | (split <;> exact ⟨by omega, by omega⟩)) (by first | assumption | exact ⟨by omega, by omega⟩ | (split <;> exact ⟨by omega, by omega⟩)) (fun hc67 => absurd ‹_› (by first | omega | assumption)) (fun hc67 => ?_)
            refine Gs_aload_n p142_70 rfl rfl ?_
            refine Gs_bipush p142_71 (by decide) ?_
            refine Gs_callV1i p142_73 (by rfl) (by rfl) (by rfl) (Nat.le_of_ble_eq_true rfl) (by decide) (c_takes (c := 44) t2 yp (by omega) (by omega) (by omega) (by omega)) (by omega) (fun z73 s73 h73 => ?_)
            rw [h73.1]
            refine Gs_ifb_eq (tgt := 89) p142_76 (by rfl) (fun h76 => ?_) (fun h76 => ?_)
            · refine Gs_iconst p142_89 ?_
              refine Gs_zret p142_90 rfl (by first | exact Or.inl rfl | exact Or.inr rfl | (split <;> first | exact Or.inl rfl | exact Or.inr rfl)) ⟨_, rfl, ?_⟩
              first
                | (have bad : ¬ mcOk ch p A := fun q => h76 (q.2.2.1 (i.toNat + 1) (by omega))
                   exact ⟨(if_neg bad).symm, (o.trans h73.2.1).m, fun q => absurd q bad⟩)
                | (have bad : ¬ mcOk ch p A := fun q => h86 ⟨q.2.1 (2 + i.toNat) (by omega), by have := q.2.1 (2 + i.toNat) (by omega); omega, q.2.2.2.2.2 i.toNat (by omega)⟩
                   exact ⟨(if_neg bad).symm, (o.trans (h73.2.1.trans h83.2.1)).m, fun q => absurd q bad⟩)
            · refine Gs_aload_n p142_79 rfl rfl ?_
              refine Gs_iconst p142_80 ?_
              refine Gs_bipush p142_81 (by decide) ?_
              refine Gs_callV2i p142_83 (by rfl) (by rfl) (by rfl) (Nat.le_of_ble_eq_true rfl) (by decide) (c_number (lo := 0) (hi := 9) (h73.2.1.txt t2) ((h73.2.2 h76).1.trans e2.symm) (by omega) (by omega) (by omega) (by omega) (by omega) (by omega)) (by omega) (fun z83 s83 h83 => ?_)
              rw [h83.1]
              refine Gs_ifb_ne (tgt := 91) p142_86 (by rfl) (fun h86 => ?_) (fun h86 => ?_)
              · refine Gs_bipush p142_91 (by decide) ?_
                refine Gs_iload_n p142_93 rfl rfl ?_
                refine Gs_imul p142_94 ?_
                refine Gs_aload_n p142_95 rfl rfl ?_
                refine Gs_getI p142_96 (by first | rfl | assumption | exact (show isTale _ from by assumption).1 | exact (show isCamp _ _ from by assumption).1 | exact (show isRow _ _ from by assumption).1) (by rfl) ?_
                rw [(h83.2.2 h86.1).2]
                refine Gs_iadd p142_99 ?_
                rw [show 10 * pkG (fun j => nmV ch (pS ch p (2 + j))) i.toNat + nmV ch (pS ch p (2 + i.toNat)) = pkG (fun j => nmV ch (pS ch p (2 + j))) (i + 1).toNat by rw [show (i + 1).toNat = i.toNat + 1 by omega]; rfl]
                refine Gs_ist3 p142_100 (by first | rfl | assumption) ?_
                refine Gs_iinc4 (b54 := none) p142_101 (by first | rfl | assumption) ?_
                refine Gs_goto (tgt := 64) p142_104 (by rfl) ?_
                refine ih _ (o.trans (h73.2.1.trans h83.2.1)) ((h83.2.2 h86.1).1.trans (by rw [show (i + 1).toNat + 1 = 2 + i.toNat by omega])) (fun j hj' => ?_)
                by_cases c : (j : Int) = i
                · rw [show j = i.toNat by omega]; exact ⟨h76, h86.1, h86.2.2⟩
                · exact hj j (by omega)
              · refine Gs_iconst p142_89 ?_
                refine Gs_zret p142_90 rfl (by first | exact Or.inl rfl | exact Or.inr rfl | (split <;> first | exact Or.inl rfl | exact Or.inr rfl)) ⟨_, rfl, ?_⟩
                first
                  | (have bad : ¬ mcOk ch p A := fun q => h76 (q.2.2.1 (i.toNat + 1) (by omega))
                     exact ⟨(if_neg bad).symm, (o.trans h73.2.1).m, fun q => absurd q bad⟩)
                  | (have bad : ¬ mcOk ch p A := fun q => h86 ⟨q.2.1 (2 + i.toNat) (by omega), by have := q.2.1 (2 + i.toNat) (by omega); omega, q.2.2.2.2.2 i.toNat (by omega)⟩
                     exact ⟨(if_neg bad).symm, (o.trans (h73.2.1.trans h83.2.1)).m, fun q => absurd q bad⟩)
          · show ∀ y : St, FrP s y → vF y 95 12 = nmP ch (pS ch p (((4 : Int)).toNat + 1)) → (∀ j : Nat, (j : Int) < ((4 : Int)) → ch (nmP ch (pS ch p (j + 1))) = 44 ∧ ¬ nmV ch (pS ch p (2 + j)) = -4 ∧ nmV ch (pS ch p (2 + j)) ≤ 9) → Gs X d 142 64 [some (.ref 95), some (.int (iI ((fun e => nmV ch (pS ch p e)) 0))), some (.int (iI ((fun e => nmV ch (pS ch p e)) 1))), some (.int (iI (pkG (fun j => nmV ch (pS ch p (2 + j))) ((4 : Int)).toNat))), some (.int (iI ((4 : Int))))] [] (y) _
            intro y o yp hj
            have t2 := o.txt t
            refine Gs_iload p142_64 rfl rfl ?_
            refine Gs_iconst p142_66 ?_
            refine Gs_icmp_ge (tgt := 107) p142_67 (by rfl) (by first | assumption | exact ⟨by omega, by omega⟩ | (split <;> exact ⟨by omega, by omega⟩)) (by first | assumption | exact ⟨by omega, by omega⟩ | (split <;> exact ⟨by omega, by omega⟩)) (fun hc67 => ?_) (fun hc67 => absurd ‹_› (by first | omega | assumption))
            have DG : ∀ j : Nat, j < 4 → 0 ≤ (fun j : Nat => nmV ch (pS ch p (2 + j))) j ∧ (fun j : Nat => nmV ch (pS ch p (2 + j))) j ≤ 9 := fun j hj' => by
              have := hj j (by omega)
              have := nmV_b ch (pS ch p (2 + j))
              show 0 ≤ nmV ch (pS ch p (2 + j)) ∧ nmV ch (pS ch p (2 + j)) ≤ 9
              omega
            refine Gs_aload_n p142_107 rfl rfl ?_
            refine Gs_getR p142_108 (by first | rfl | assumption | exact (show isTale _ from by assumption).1 | exact (show isCamp _ _ from by assumption).1 | exact (show isRow _ _ from by assumption).1) (by rfl) ?_
            refine Gs_iload_n p142_111 rfl rfl ?_
            refine Gs_iload_n p142_112 rfl rfl ?_
            refine Gs_iload_n p142_113 rfl rfl ?_
            refine Gs_callS4v p142_114 (by rfl) (Nat.le_of_ble_eq_true rfl) (by decide) (c_mcompany (v := (fun e => nmV ch (pS ch p e))) (m.cong (fun z => o.1 97 z)) ok (by omega) (pkG_b DG).1 (pkG_b DG).2 (fun j hj' => qt_pk DG j hj')) (by omega) (fun s114 h114 => ?_)
            refine Gs_iconst p142_117 ?_
            refine Gs_zret p142_118 rfl (by first | exact Or.inl rfl | exact Or.inr rfl | (split <;> first | exact Or.inl rfl | exact Or.inr rfl)) ⟨_, rfl, ?_⟩
            have OK : mcOk ch p A := by
              refine ⟨by omega, fun j hj' => ?_, fun j hj' => ?_, ?_, h49.2, fun w hw => (hj w (by omega)).2.2⟩
              · match j, hj' with
                | 0, _ => exact h23.1
                | 1, _ => exact h49.1
                | j + 2, _ => rw [Nat.add_comm]; exact (hj j (by omega)).2.1
              · match j, hj' with
                | 0, _ => exact h32
                | j + 1, _ => exact (hj j (by omega)).1
              · show nmV ch p < A.L
                have := h23.2.2
                omega
            exact ⟨(if_pos OK).symm, o.m.trans ⟨h114.1, fun a k _ => h114.2.1 a k⟩, fun _ => ⟨(h114.2.1 _ _).trans yp, h114.2.2⟩⟩
        · refine Gs_iconst p142_52 ?_
          refine Gs_zret p142_53 rfl (by first | exact Or.inl rfl | exact Or.inr rfl | (split <;> first | exact Or.inl rfl | exact Or.inr rfl)) ⟨_, rfl, ?_⟩
          have bad : ¬ mcOk ch p A := fun q => h49 ⟨q.2.1 1 (by omega), q.2.2.2.2.1.1, q.2.2.2.2.1.2⟩
          exact ⟨(if_neg bad).symm, (h20.2.1.trans (h29.2.1.trans h46.2.1)).m, fun q => absurd q bad⟩
      · refine Gs_iconst p142_35 ?_
        refine Gs_zret p142_36 rfl (by first | exact Or.inl rfl | exact Or.inr rfl | (split <;> first | exact Or.inl rfl | exact Or.inr rfl)) ⟨_, rfl, ?_⟩
        first
          | (have bad : ¬ mcOk ch p A := fun q => by have := q.1; omega
             exact ⟨(if_neg bad).symm, FrP.rfl'.m, fun q => absurd q bad⟩)
          | (have bad : ¬ mcOk ch p A := fun q => h32 (q.2.2.1 0 (by omega))
             exact ⟨(if_neg bad).symm, (h20.2.1.trans h29.2.1).m, fun q => absurd q bad⟩)
          | (have bad : ¬ mcOk ch p A := fun q => h23 ⟨q.2.1 0 (by omega), by have : ¬ nmV ch p = -4 := q.2.1 0 (by omega); omega, by have : nmV ch p < A.L := q.2.2.2.1; omega⟩
             exact ⟨(if_neg bad).symm, h20.2.1.m, fun q => absurd q bad⟩)
