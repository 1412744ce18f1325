/-! laying a text: both sides -/
def BegM (s u : St) : Prop := (∀ a z, a ≠ 98 → vA u a z = vA s a z) ∧ (∀ a k, ¬ (a = 95 ∧ (k = 5 ∨ k = 7 ∨ k = 9)) → vF u a k = vF s a k) ∧ (vF u 95 5 = 0 ∧ vF u 95 7 = 0 ∧ vF u 95 9 = 0) ∧ ∀ z, 0 ≤ z → z < 33 → vA u 98 z = (if z < 28 then bgV s z else 0)
set_option maxHeartbeats 4000000 in
set_option maxRecDepth 4000 in
theorem c_mlay {X : vX} {s : St} {ch : Int → Int} {n : Int} (t : MTx s ch n) : OkI X 7 147 [.ref 95] s (fun z u => z = (if layOk (rdF ch n 200 0 A0) then (rdF ch n 200 0 A0).2.N else -2) ∧ (¬ layOk (rdF ch n 200 0 A0) → FrM s u) ∧ (layOk (rdF ch n 200 0 A0) → ∃ y : St, FrM s y ∧ RM y (rdF ch n 200 0 A0).2 ∧ BegM (cpS y 97 0 96 0 71) u)) := by
  refine Ok.of (r := vm_m147) (ls := [some (.ref 95)]) rfl (Nat.le_of_ble_eq_true rfl) rfl (fun d hd => ?_)
  have ro := rdF_ok (ch := ch) (n := n) 200 0 A0 A0_ok (by omega)
  have n2 := t.2.2.1
  obtain ⟨a1, a2, a3, a4, a5, a6, a7⟩ := id ro.1
  refine Gs_aload_n p147_0 rfl rfl ?_
  refine Gs_callV0i p147_1 (by rfl) (by rfl) (by rfl) (Nat.le_of_ble_eq_true rfl) (by decide) (c_reads t) (by omega) (fun z1 s1 h1 => ?_)
  refine Gs_bipush p147_4 (by decide) ?_
  refine Gs_icmp_ne (tgt := 25) p147_6 (by rfl) (by rw [h1.1]; exact ⟨by omega, by omega⟩) ⟨by omega, by omega⟩ (fun h6 => ?_) (fun h6 => ?_)
  · refine Gs_bipush p147_25 (by decide) ?_
    refine Gs_iret p147_27 rfl ⟨_, rfl, ?_⟩
    first
      | (have no : ¬ layOk (rdF ch n 200 0 A0) := fun q => h6 (h1.1.trans q.1)
         exact ⟨(if_neg no).symm, fun _ => h1.2.1, fun q => absurd q no⟩)
      | (have no : ¬ layOk (rdF ch n 200 0 A0) := fun q => h22 q.2.2
         exact ⟨(if_neg no).symm, fun _ => h1.2.1, fun q => absurd q no⟩)
      | (have no : ¬ layOk (rdF ch n 200 0 A0) := fun q => by have := q.2.1; omega
         exact ⟨(if_neg no).symm, fun _ => h1.2.1, fun q => absurd q no⟩)
  · refine Gs_aload_n p147_9 rfl rfl ?_
    refine Gs_getR p147_10 (by first | rfl | assumption | exact (show isTale _ from by assumption).1 | exact (show isCamp _ _ from by assumption).1 | exact (show isRow _ _ from by assumption).1) (by rfl) ?_
    refine Gs_iconst p147_13 ?_
    refine Gs_iald p147_14 (by first | rfl | assumption | exact (show isTale _ from by assumption).1 | exact (show isCamp _ _ from by assumption).1 | exact (show isRow _ _ from by assumption).1) (by omega) (by omega) (by omega) ?_
    rw [(h1.2.2 (h1.1.symm.trans (Decidable.not_not.mp h6))).1.2.2]
    refine Gs_if_eq (tgt := 25) p147_15 (by rfl) (by first | assumption | exact ⟨by omega, by omega⟩ | (split <;> exact ⟨by omega, by omega⟩)) (fun h15 => ?_) (fun h15 => ?_)
    · refine Gs_bipush p147_25 (by decide) ?_
      refine Gs_iret p147_27 rfl ⟨_, rfl, ?_⟩
      first
        | (have no : ¬ layOk (rdF ch n 200 0 A0) := fun q => h6 (h1.1.trans q.1)
           exact ⟨(if_neg no).symm, fun _ => h1.2.1, fun q => absurd q no⟩)
        | (have no : ¬ layOk (rdF ch n 200 0 A0) := fun q => h22 q.2.2
           exact ⟨(if_neg no).symm, fun _ => h1.2.1, fun q => absurd q no⟩)
        | (have no : ¬ layOk (rdF ch n 200 0 A0) := fun q => by have := q.2.1; omega
           exact ⟨(if_neg no).symm, fun _ => h1.2.1, fun q => absurd q no⟩)
    · refine Gs_aload_n p147_18 rfl rfl ?_
      refine Gs_callV0I p147_19 (by rfl) (by rfl) (by rfl) (Nat.le_of_ble_eq_true rfl) (by decide) (c_areTold (h1.2.2 (h1.1.symm.trans (Decidable.not_not.mp h6))) ro.1) (by omega) ?_
      refine Gs_ifb_ne (tgt := 28) p147_22 (by rfl) (fun h22 => ?_) (fun h22 => ?_)
      · refine Gs_aload_n p147_28 rfl rfl ?_
        refine Gs_getR p147_29 (by first | rfl | assumption | exact (show isTale _ from by assumption).1 | exact (show isCamp _ _ from by assumption).1 | exact (show isRow _ _ from by assumption).1) (by rfl) ?_
        refine Gs_iconst p147_32 ?_
        refine Gs_aload_n p147_33 rfl rfl ?_
        refine Gs_getR p147_34 (by first | rfl | assumption | exact (show isTale _ from by assumption).1 | exact (show isCamp _ _ from by assumption).1 | exact (show isRow _ _ from by assumption).1) (by rfl) ?_
        refine Gs_iconst p147_37 ?_
        refine Gs_bipush p147_38 (by decide) ?_
        refine Gs_callS5W p147_40 (by rfl) (Nat.le_of_ble_eq_true rfl) (by decide) (c_copies (a := 97) (b := 96) (na := 71) (nb := 71) (i := 0) (j := 0) (n := 71) (by rfl) (by rfl) (by decide) (by omega) (by omega) (by omega) (by omega) (by omega) (by omega) (by omega)) (by omega) ?_
        refine Gs_aload_n p147_43 rfl rfl ?_
        refine Gs_callV0v p147_44 (by rfl) (by rfl) (by rfl) (Nat.le_of_ble_eq_true rfl) (by decide) (c_begins (s := cpS s1 97 0 96 0 71) (show 0 ≤ vA s1 97 2 by rw [(h1.2.2 (h1.1.symm.trans (Decidable.not_not.mp h6))).1.2.2]; exact a5) (show vA s1 97 2 ≤ 4 by rw [(h1.2.2 (h1.1.symm.trans (Decidable.not_not.mp h6))).1.2.2]; exact a6)) (by omega) (fun s44 h44 => ?_)
        refine Gs_aload_n p147_47 rfl rfl ?_
        refine Gs_getR p147_48 (by first | rfl | assumption | exact (show isTale _ from by assumption).1 | exact (show isCamp _ _ from by assumption).1 | exact (show isRow _ _ from by assumption).1) (by rfl) ?_
        refine Gs_iconst p147_51 ?_
        refine Gs_iald p147_52 (by first | rfl | assumption | exact (show isTale _ from by assumption).1 | exact (show isCamp _ _ from by assumption).1 | exact (show isRow _ _ from by assumption).1) (by omega) (by omega) (by omega) ?_
        refine Gs_iret p147_53 rfl ⟨_, rfl, ?_⟩
        have yes : layOk (rdF ch n 200 0 A0) := ⟨h1.1.symm.trans (Decidable.not_not.mp h6), by omega, h22⟩
        have e : vA s44 96 2 = (rdF ch n 200 0 A0).2.N := ((h44.1 96 2 (by decide)).trans (show vA (cpS s1 97 0 96 0 71) 96 2 = vA s1 97 2 from rfl)).trans (h1.2.2 (h1.1.symm.trans (Decidable.not_not.mp h6))).1.2.2
        exact ⟨e.trans (if_pos yes).symm, fun q => absurd yes q, fun _ => ⟨s1, h1.2.1, (h1.2.2 (h1.1.symm.trans (Decidable.not_not.mp h6))), h44⟩⟩
      · refine Gs_bipush p147_25 (by decide) ?_
        refine Gs_iret p147_27 rfl ⟨_, rfl, ?_⟩
        first
          | (have no : ¬ layOk (rdF ch n 200 0 A0) := fun q => h6 (h1.1.trans q.1)
             exact ⟨(if_neg no).symm, fun _ => h1.2.1, fun q => absurd q no⟩)
          | (have no : ¬ layOk (rdF ch n 200 0 A0) := fun q => h22 q.2.2
             exact ⟨(if_neg no).symm, fun _ => h1.2.1, fun q => absurd q no⟩)
          | (have no : ¬ layOk (rdF ch n 200 0 A0) := fun q => by have := q.2.1; omega
             exact ⟨(if_neg no).symm, fun _ => h1.2.1, fun q => absurd q no⟩)

theorem laid_A {y : St} {A : AS} {a : Nat} (z : Int) (h : ¬ (a = 7 ∨ a = 9 ∨ a = 16)) : vA (laidS y A) a z = vA y a z := by
  show (if a = 16 ∧ 0 ≤ z ∧ z < vF y 67 1 then vA y 68 z else if a = 9 ∧ 0 ≤ z ∧ z < vF y 60 1 then vA y 61 z else if a = 7 ∧ 0 ≤ z ∧ z < vF y 58 1 then vA y 59 z else vA y a z) = _
  rw [if_neg (by omega), if_neg (by omega), if_neg (by omega)]
theorem laid_F {y : St} {A : AS} {a k : Nat} (h : ¬ ((a = 46 ∧ k = 2) ∨ (a = 20 ∧ k = 2) ∨ (a = 3 ∧ k = 1) ∨ (a = 14 ∧ k = 2) ∨ (a = 15 ∧ k = 1) ∨ (a = 8 ∧ k = 1) ∨ (a = 6 ∧ k = 1) ∨ (a = 5 ∧ k = 4))) : vF (laidS y A) a k = vF y a k := by
  unfold laidS cpC sCopyA sCopy
  rw [vF_sF, if_neg (by omega), vF_sF, if_neg (by omega), vF_sF, if_neg (by omega), vF_sF, if_neg (by omega), vF_sF, if_neg (by omega)]
  show vF (sF _ 8 1 _) a k = _
  rw [vF_sF, if_neg (by omega)]
  show vF (sF _ 6 1 _) a k = _
  rw [vF_sF, if_neg (by omega)]
  show vF (sF _ 5 4 _) a k = _
  rw [vF_sF, if_neg (by omega)]
theorem laid_rel {K : Int} {s y y2 u : St} {A : AS} (hR : Rel K s) (ok : AOk A) (h1 : FrR s y) (h2 : RC y A) (h3 : FrM (laidS y A) y2) (h4 : RM y2 A) (h5 : BegM (cpS y2 97 0 96 0 71) u) (hN : 1 ≤ A.N) (hT : toldOk A (4 * A.L).toNat) : Rel (K + 1) u := by
  obtain ⟨r0, r1, r2, r3, r4, r5, r6⟩ := hR
  obtain ⟨a1, a2, a3, a4, a5, a6, a7, a8, a9⟩ := ok
  obtain ⟨⟨g1, g2, g3⟩, ⟨g4, g5⟩, g6, g7, g8⟩ := h2
  obtain ⟨⟨m0, m1, m2⟩, m3, m4, m5⟩ := h4
  obtain ⟨b1, b2, ⟨b3, b4, b5⟩, b6⟩ := h5
  have F : ∀ a k, ¬ (a = 95 ∧ (k = 5 ∨ k = 7 ∨ k = 9 ∨ k = 12 ∨ k = 13)) → vF u a k = vF (laidS y A) a k := fun a k e => (b2 a k (by omega)).trans ((cpS_F _ _ _ _ _ _ _ _).trans (h3.2 a k (by omega)))
  have C : ∀ a z, a ≠ 96 → a ≠ 97 → a ≠ 98 → vA u a z = vA (laidS y A) a z := fun a z e1 e2 e3 => (b1 a z e3).trans (((cpS_A _ _ _ _ _ _ _ _).trans (if_neg (fun q => e1 q.1))).trans (h3.1 a z e2))
  have F0 : ∀ a k, (a < 54 ∨ 69 ≤ a) → ¬ ((a = 46 ∧ k = 2) ∨ (a = 20 ∧ k = 2) ∨ (a = 3 ∧ k = 1) ∨ (a = 14 ∧ k = 2) ∨ (a = 15 ∧ k = 1) ∨ (a = 8 ∧ k = 1) ∨ (a = 6 ∧ k = 1) ∨ (a = 5 ∧ k = 4)) → ¬ (a = 95 ∧ (k = 5 ∨ k = 7 ∨ k = 9 ∨ k = 12 ∨ k = 13)) → vF u a k = vF s a k := fun a k e1 e2 e3 => (F a k e3).trans ((laid_F e2).trans (h1.2 a k e1))
  have C0 : ∀ a z, (a < 54 ∨ 69 ≤ a) → ¬ (a = 7 ∨ a = 9 ∨ a = 16) → a ≠ 96 → a ≠ 97 → a ≠ 98 → vA u a z = vA s a z := fun a z e1 e2 e3 e4 e5 => (C a z e3 e4 e5).trans ((laid_A z e2).trans (h1.1 a z e1))
  have cp : ∀ z, 0 ≤ z → z < 71 → vA (cpS y2 97 0 96 0 71) 96 z = vA y2 97 z := fun z z0 z1 => (cpS_A _ _ _ _ _ _ _ _).trans ((if_pos ⟨rfl, z0, by omega⟩).trans (by rw [show z - 0 + 0 = z by omega]))
  have c96 : ∀ z, 0 ≤ z → z < 71 → vA u 96 z = vA y2 97 z := fun z z0 z1 => (b1 96 z (by decide)).trans (cp z z0 z1)
  have e54 : vF u 5 4 = A.L := (F 5 4 (by decide)).trans rfl
  have e61 : vF u 6 1 = 4 * A.L := (F 6 1 (by decide)).trans (show vF y 58 1 = _ from g2)
  have e81 : vF u 8 1 = A.R := (F 8 1 (by decide)).trans (show vF y 60 1 = _ from g4)
  have e151 : vF u 15 1 = 8 * A.N := (F 15 1 (by decide)).trans (show vF y 67 1 = _ from g6)
  have e142 : vF u 14 2 = 0 := (F 14 2 (by decide)).trans (show vF y 66 2 = _ from g8)
  have e31 : vF u 3 1 = 0 := (F 3 1 (by decide)).trans rfl
  have e202 : vF u 20 2 = 0 := (F 20 2 (by decide)).trans rfl
  have e462 : vF u 46 2 = 0 := (F 46 2 (by decide)).trans rfl
  have e201 : vF u 20 1 = vF s 20 1 := F0 20 1 (by decide) (by decide) (by decide)
  have e461 : vF u 46 1 = vF s 46 1 := F0 46 1 (by decide) (by decide) (by decide)
  have c7 : ∀ j, 0 ≤ j → j < 4 * A.L → vA u 7 j = A.nx j := fun j j0 j1 => (C 7 j (by decide) (by decide) (by decide)).trans ((show vA (laidS y A) 7 j = if (7 : Nat) = 7 ∧ 0 ≤ j ∧ j < vF y 58 1 then vA y 59 j else vA y 7 j from rfl).trans ((if_pos ⟨rfl, j0, by omega⟩).trans (g3 j j0 j1)))
  have c9 : ∀ j, 0 ≤ j → j < A.R → vA u 9 j = A.ra j := fun j j0 j1 => (C 9 j (by decide) (by decide) (by decide)).trans ((show vA (laidS y A) 9 j = if (9 : Nat) = 9 ∧ 0 ≤ j ∧ j < vF y 60 1 then vA y 61 j else vA y 9 j from rfl).trans ((if_pos ⟨rfl, j0, by omega⟩).trans (g5 j j0 j1)))
  have c16 : ∀ k w, 0 ≤ k → k < A.N → 0 ≤ w → w < 8 → vA u 16 (k * 8 + w) = A.cm k w := fun k w k0 k1 w0 w1 => (C 16 _ (by decide) (by decide) (by decide)).trans ((show vA (laidS y A) 16 (k * 8 + w) = if (16 : Nat) = 16 ∧ 0 ≤ k * 8 + w ∧ k * 8 + w < vF y 67 1 then vA y 68 (k * 8 + w) else vA y 16 (k * 8 + w) from rfl).trans ((if_pos ⟨rfl, by omega, by omega⟩).trans (g7 k w k0 k1 w0 w1)))
  have n96 : vA u 96 2 = A.N := (c96 2 (by omega) (by omega)).trans m2
  have bg : ∀ z, bgV (cpS y2 97 0 96 0 71) z = if z < 4 then (if z < A.N then vA (cpS y2 97 0 96 0 71) 96 (51 + z) else 0) else if z < 8 then (if z - 4 < A.N then vA (cpS y2 97 0 96 0 71) 96 (47 + (z - 4)) else -4) else if z < 24 then (if (z - 8) / 4 < A.N then vA (cpS y2 97 0 96 0 71) 96 (55 + (z - 8)) else 0) else -4 := fun z => by
    unfold bgV
    rw [cp 2 (by omega) (by omega), m2]
  have tale : TaleOk u 5 := ⟨by omega, by omega, by show vF u 6 1 = _; omega, by show 0 ≤ vF u 8 1; omega, by show vF u 8 1 ≤ 8; omega, fun j j0 j1 => by
    show 0 ≤ vA u 7 j ∧ vA u 7 j ≤ 9
    rw [e54] at j1
    rw [c7 j j0 j1]; exact a7 j j0 j1, fun j j0 j1 => by
    have j1' : j < vF u 8 1 := j1
    show 0 ≤ vA u 9 j ∧ vA u 9 j ≤ 3
    rw [e81] at j1'
    rw [c9 j j0 j1']; exact a8 j j0 j1'⟩
  have hL : 1 ≤ A.L := by have := (a9 0 (by omega) (by omega)).2.1; omega
  have camp : CampOk u 14 A.N := ⟨a5, a6, e151, by omega, by omega, fun k w k0 k1 w0 w1 => by
    have q := (RC.camp ⟨⟨g1, g2, g3⟩, ⟨g4, g5⟩, g6, g7, g8⟩ ⟨a1, a2, a3, a4, a5, a6, a7, a8, a9⟩).2.2.2.2.2 k w k0 k1 w0 w1
    have q2 : loW w ≤ vA y 68 (k * 8 + w) ∧ vA y 68 (k * 8 + w) ≤ hiW w := q
    show loW w ≤ vA u 16 (k * 8 + w) ∧ vA u 16 (k * 8 + w) ≤ hiW w
    rw [c16 k w k0 k1 w0 w1, ← g7 k w k0 k1 w0 w1]; exact q2⟩
  have cc : ∀ k w, 0 ≤ k → k < A.N → 0 ≤ w → w < 8 → cg u 14 k w = A.cm k w := c16
  refine ⟨by omega, r1.cong (F0 _ _ (by decide) (by decide) (by decide)) (F0 _ _ (by decide) (by decide) (by decide)) (fun z => C0 _ z (by decide) (by decide) (by decide) (by decide) (by decide)) (fun z => C0 _ z (by decide) (by decide) (by decide) (by decide) (by decide)), ⟨by omega, by omega, by omega, fun j j0 j1 => absurd j1 (by omega)⟩, ⟨tale, by omega, (c96 0 (by omega) (by omega)).trans (m0.trans e54.symm), (c96 1 (by omega) (by omega)).trans (m1.trans e81.symm), fun j j0 j1 => ?_, fun j j0 j1 => ?_, by omega, by omega⟩, ?_, ⟨by rw [e201]; exact r5.1, by rw [e201]; have := r5.2.1; omega, by omega, by omega, by omega, fun j hj => absurd hj (by omega)⟩, ⟨e461.trans r6.1, by omega, by omega, by omega, fun j hj => absurd hj (by omega)⟩⟩
  · rw [e54] at j1
    have q := hT j.toNat (by omega)
    rw [show ((j.toNat : Nat) : Int) = j by omega] at q
    refine ⟨(c96 _ (by omega) (by omega)).trans ((m3 j j0 j1).trans (c7 j j0 j1).symm), ?_⟩
    rw [c7 j j0 j1, e54]; exact q
  · rw [e81] at j1
    exact (c96 _ (by omega) (by omega)).trans ((m4 j j0 j1).trans (c9 j j0 j1).symm)
  · rw [n96, e54]
    refine ⟨camp, ?_, by omega, fun k k0 k1 => ?_, fun k w k0 k1 w0 w1 => ?_, fun k k0 k1 => ⟨?_, ?_, fun w w0 w1 => ?_⟩⟩
    · rw [e142, b6 _ (by omega) (by omega), if_neg (by omega)]
    · obtain ⟨d1, d2, d3, d4, d5⟩ := a9 k k0 k1
      obtain ⟨f1, f2, f3⟩ := m5 k k0 k1
      rw [cc k 0 k0 k1 (by omega) (by omega), cc k 1 k0 k1 (by omega) (by omega), cc k 6 k0 k1 (by omega) (by omega), cc k 7 k0 k1 (by omega) (by omega)]
      refine ⟨?_, ?_, ?_, ?_, by omega, fun q => by omega, fun q => d2⟩
      · rw [b6 _ (by omega) (by omega), if_pos (by omega), bg, if_pos (by omega), if_pos (by omega), cp _ (by omega) (by omega), show 51 + (0 + k) = 51 + k by omega, f1]
      · rw [b6 _ (by omega) (by omega), if_pos (by omega), bg, if_neg (by omega), if_pos (by omega), if_pos (by omega), cp _ (by omega) (by omega), show 47 + (0 + 4 + k - 4) = 47 + k by omega, f2]
      · rw [b6 _ (by omega) (by omega), if_pos (by omega), bg, if_neg (by omega), if_neg (by omega), if_neg (by omega), d4]
      · rw [b6 _ (by omega) (by omega), if_neg (by omega), d5]
    · obtain ⟨f1, f2, f3⟩ := m5 k k0 k1
      rw [cc k (2 + w) k0 k1 (by omega) (by omega), b6 _ (by omega) (by omega), if_pos (by omega), bg, if_neg (by omega), if_neg (by omega), if_pos (by omega), if_pos (by omega), cp _ (by omega) (by omega), show 55 + (0 + 8 + 4 * k + w - 8) = 55 + 4 * k + w by omega, f3 w w0 w1]
    · rw [b6 _ (by omega) (by omega), if_pos (by omega), bg, if_pos (by omega), if_neg (by omega)]
    · rw [b6 _ (by omega) (by omega), if_neg (by omega)]
    · rw [b6 _ (by omega) (by omega), if_pos (by omega), bg, if_neg (by omega), if_neg (by omega), if_pos (by omega), if_neg (by omega)]
theorem laid_txt {y : St} {A : AS} {ch : Int → Int} {n : Int} (h : MTx y ch n) : MTx (laidS y A) ch n := h.cong (laid_F (by decide)) (fun z => laid_A z (by decide))
theorem T_lay {X : vX} {K : Int} {s : St} (hR : Rel K s) (hK : K < 512) : Both X K s 96 147 [] := by
  have h1 := hR.2.1
  have ro := rdF_ok (ch := chS s) (n := vF s 1 1) 200 0 A0 A0_ok (by omega)
  refine Both.of (D := 7) (D' := 7) (P' := fun _ t z u => z = (if layOk (rdF (chS s) (vF s 1 1) 200 0 A0) then (rdF (chS s) (vF s 1 1) 200 0 A0).2.N else -2) ∧ (¬ layOk (rdF (chS s) (vF s 1 1) 200 0 A0) → FrM t u) ∧ (layOk (rdF (chS s) (vF s 1 1) 200 0 A0) → ∃ y : St, FrM t y ∧ RM y (rdF (chS s) (vF s 1 1) 200 0 A0).2 ∧ BegM (cpS y 97 0 96 0 71) u)) (c_lay h1.ch rfl) (by decide) (by decide) (fun z t q => c_mlay (ch := chS s) (n := vF s 1 1) ?_) (fun z t z' t' q q' => ⟨q'.1.trans q.1.symm, ?_, ?_⟩)
  · by_cases c : layOk (rdF (chS s) (vF s 1 1) 200 0 A0)
    · obtain ⟨y, o, r, e⟩ := q.2.2 c
      subst e
      exact laid_txt (h1.mch.cong (o.2 _ _ (by decide)) (fun z => o.1 _ z (by decide)))
    · have o := q.2.1 c
      exact h1.mch.cong (o.2 _ _ (by decide)) (fun z => o.1 _ z (by decide))
  · rw [q.1]
    have n1 := ro.1.2.2.2.2.1
    have n2 := ro.1.2.2.2.2.2.1
    split <;> exact ⟨by omega, by omega⟩
  · by_cases c : layOk (rdF (chS s) (vF s 1 1) 200 0 A0)
    · obtain ⟨y, o, r, e⟩ := q.2.2 c
      subst e
      obtain ⟨y2, o2, r2, b⟩ := q'.2.2 c
      exact laid_rel hR ro.1 o r o2 r2 b c.2.1 c.2.2
    · exact Rel_more (hR.kept ((q.2.1 c).kept.trans (q'.2.1 c).kept))