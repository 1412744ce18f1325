/-! rows -/
theorem row10 : isRow 10 9 := ⟨rfl, rfl, by decide⟩
theorem row12 : isRow 12 9 := ⟨rfl, rfl, by decide⟩
theorem isA111 : isA 111 9 := rfl
theorem isA112 : isA 112 9 := rfl
/-- the ways laid on, m turns of line and wood -/
def accW (C : Int → Int → Int) (W : Int → Int) : Nat → Int → Int
  | 0 => fun _ => 0
  | m + 1 => fun x => if x = C ((m : Int) / 4) ((m : Int) % 4) then accW C W m x + W ((m : Int) / 4) else accW C W m x
theorem accW_s {C : Int → Int → Int} {W : Int → Int} {i j : Int} (hi : 0 ≤ i) (hj : 0 ≤ j) (hj4 : j < 4) (x : Int) : accW C W (4 * i + (j + 1)).toNat x = if x = C i j then accW C W (4 * i + j).toNat x + W i else accW C W (4 * i + j).toNat x := by
  rw [show (4 * i + (j + 1)).toNat = (4 * i + j).toNat + 1 by omega]
  show (if x = C (((4 * i + j).toNat : Int) / 4) (((4 * i + j).toNat : Int) % 4) then _ + W (((4 * i + j).toNat : Int) / 4) else _) = _
  rw [show ((4 * i + j).toNat : Int) / 4 = i by omega, show ((4 * i + j).toNat : Int) % 4 = j by omega]
theorem accW_cong {C C' : Int → Int → Int} {W : Int → Int} {L : Int} (h : ∀ l w, 0 ≤ l → l < L → 0 ≤ w → w < 4 → C l w = C' l w) (m : Nat) (hm : (m : Int) ≤ 4 * L) : accW C W m = accW C' W m := by
  induction m with
  | zero => rfl
  | succ m ih =>
    funext x
    show (if x = C ((m : Int) / 4) ((m : Int) % 4) then accW C W m x + W ((m : Int) / 4) else accW C W m x) = (if x = C' ((m : Int) / 4) ((m : Int) % 4) then accW C' W m x + W ((m : Int) / 4) else accW C' W m x)
    rw [h _ _ (by omega) (by omega) (by omega) (by omega), ih (by omega)]
def lenW (C : Int → Int → Int) (L : Int) (W : Int → Int) : Int → Int := accW C W (4 * L).toNat
def itW (C : Int → Int → Int) (L : Int) (W : Int → Int) : Nat → Int → Int
  | 0 => W
  | n + 1 => lenW C L (itW C L W n)
theorem itW_s {C : Int → Int → Int} {L : Int} {W : Int → Int} {i : Int} (hi : 0 ≤ i) : itW C L W (i + 1).toNat = lenW C L (itW C L W i.toNat) := by
  rw [show (i + 1).toNat = i.toNat + 1 by omega]
  rfl
theorem itW_cong {C C' : Int → Int → Int} {W : Int → Int} {L : Int} (h : ∀ l w, 0 ≤ l → l < L → 0 ≤ w → w < 4 → C l w = C' l w) (hL : 0 ≤ L) (n : Nat) : itW C L W n = itW C' L W n := by
  induction n with
  | zero => rfl
  | succ n ih =>
    show lenW C L (itW C L W n) = lenW C' L (itW C' L W n)
    rw [ih]
    exact accW_cong h _ (by omega)
def WA (s u : St) (W : Int → Int) : Prop := (∀ a z, a ≠ 11 → a ≠ 13 → vA u a z = vA s a z) ∧ (∀ a k, ¬ (a = 10 ∧ k = 1) → ¬ (a = 12 ∧ k = 1) → vF u a k = vF s a k) ∧ vF u 10 1 = 9 ∧ (∀ x, 0 ≤ x → x < 9 → vA u 11 x = W x)
def WB (s u : St) (W A : Int → Int) : Prop := WA s u W ∧ vF u 12 1 = 9 ∧ (∀ x, 0 ≤ x → x < 9 → vA u 13 x = A x)
theorem WA.tale {s u : St} {W : Int → Int} (h : WA s u W) (hT : TaleOk s 5) : TaleOk u 5 ∧ (∀ l w, cfI u 5 l w = cfI s 5 l w) ∧ vF u 5 4 = vF s 5 4 := by
  obtain ⟨h1, h2, h3, h4⟩ := h
  have e : ∀ l w, bhI u 5 l w = bhI s 5 l w := fun l w => bhI_cong (h2 _ _ (by omega) (by omega)) (fun z => h1 _ z (by omega) (by omega)) l w
  exact ⟨hT.cong (h2 _ _ (by omega) (by omega)) (h2 _ _ (by omega) (by omega)) (h2 _ _ (by omega) (by omega)) (fun z => h1 _ z (by omega) (by omega)) (fun z => h1 _ z (by omega) (by omega)), fun l w => by unfold cfI; rw [e], h2 _ _ (by omega) (by omega)⟩
theorem cF_A (s : St) (a : Nat) (i v : Int) (a' : Nat) (z : Int) : vA (cF s a i v) a' z = if a' = a ∧ 0 ≤ z ∧ z < i then v else vA s a' z := rfl
theorem cF_F (s : St) (a : Nat) (i v : Int) (a' k : Nat) : vF (cF s a i v) a' k = vF s a' k := rfl
theorem sCA_A (s : St) (r a o b a' : Nat) (z : Int) : vA (sCopyA s r a o b) a' z = if a' = a ∧ 0 ≤ z ∧ z < vF s o 1 then vA s b z else vA s a' z := rfl
theorem sCA_F (s : St) (r a o b a' k : Nat) : vF (sCopyA s r a o b) a' k = if a' = r ∧ k = 1 then vF s o 1 else vF s a' k := rfl
set_option maxHeartbeats 1000000 in
set_option maxRecDepth 4000 in
theorem c_lengthen {X : vX} {s : St} {u : St} {W : Int → Int} (hT : TaleOk s 5) (hcl : ∀ l w, 0 ≤ l → l < vF s 5 4 → 0 ≤ cfI s 5 l w ∧ cfI s 5 l w < vF s 5 4) (o0 : WA s u W) : OkV X 5 86 [.ref 5] u (fun y => WA s y (lenW (cfI s 5) (vF s 5 4) W)) := by
  refine Ok.of (r := vm_m86) (ls := [some (.ref 5), none, none, none]) rfl (Nat.le_of_ble_eq_true rfl) rfl (fun d hd => ?_)
  obtain ⟨k1, k2, k3, k4, k5, k6, k7⟩ := id hT
  have ob : WB s (cF (sF u 12 1 9) 13 9 0) W (accW (cfI s 5) W (4 * (0 : Int)).toNat) := by
    obtain ⟨h1, h2, h3, h4⟩ := id o0
    refine ⟨⟨fun a z a1 a2 => ?_, fun a k a1 a2 => ?_, ?_, fun x x0 x1 => ?_⟩, rfl, fun x x0 x1 => ?_⟩
    · rw [cF_A, if_neg (fun e => a2 e.1)]; exact h1 a z a1 a2
    · rw [cF_F, vF_sF, if_neg a2]; exact h2 a k a1 a2
    · rw [cF_F, vF_sF, if_neg (by omega)]; exact h3
    · rw [cF_A, if_neg (by omega)]; exact h4 x x0 x1
    · rw [cF_A, if_pos ⟨rfl, x0, x1⟩]; rfl
  refine Gs_aload_n p86_0 rfl rfl ?_
  refine Gs_getR p86_1 (by first | rfl | assumption | exact (show isTale _ from by assumption).1 | exact (show isCamp _ _ from by assumption).1 | exact (show isRow _ _ from by assumption).1) (by rfl) ?_
  refine Gs_iconst p86_4 ?_
  refine Gs_callV1W p86_5 (by rfl) (by rfl) (by rfl) (Nat.le_of_ble_eq_true rfl) (by decide) (c_afill (a := 13) row12 rfl) (by omega) ?_
  refine Gs_iconst p86_8 ?_
  refine Gs_ist1 p86_9 (by first | rfl | assumption) ?_
  refine dn (n := (vF s 5 4)) (P := fun i => ∀ (y : St) (b2 b3 : Option Value), WB s y W (accW (cfI s 5) W (4 * i).toNat) → Gs X d 86 10 [some (.ref 5), some (.int (iI i)), b2, b3] [] (y) (fun vv yy => vv = none ∧ WA s yy (lenW (cfI s 5) (vF s 5 4) W))) (by omega) (fun i hi hin ih => ?_) ?_ _ none none ob
  · show ∀ (y : St) (b2 b3 : Option Value), WB s y W (accW (cfI s 5) W (4 * i).toNat) → Gs X d 86 10 [some (.ref 5), some (.int (iI i)), b2, b3] [] (y) _
    intro y b2 b3 o
    have e4 := (o.1.tale hT).2.2
    refine Gs_iload_n p86_10 rfl rfl ?_
    refine Gs_aload_n p86_11 rfl rfl ?_
    refine Gs_getI p86_12 (by first | rfl | assumption | exact (show isTale _ from by assumption).1 | exact (show isCamp _ _ from by assumption).1 | exact (show isRow _ _ from by assumption).1) (by rfl) ?_
    rw [e4]
    refine Gs_icmp_ge (tgt := 69) p86_15 (by rfl) (by first | assumption | exact ⟨by omega, by omega⟩ | (split <;> exact ⟨by omega, by omega⟩)) (by first | assumption | exact ⟨by omega, by omega⟩ | (split <;> exact ⟨by omega, by omega⟩)) (fun hc15 => absurd ‹_› (by first | omega | assumption)) (fun hc15 => ?_)
    refine Gs_iconst p86_18 ?_
    refine Gs_ist2 p86_19 (by first | rfl | assumption) ?_
    refine dn (n := 4) (P := fun j => ∀ (y : St) (b3 : Option Value), WB s y W (accW (cfI s 5) W (4 * i + j).toNat) → Gs X d 86 20 [some (.ref 5), some (.int (iI i)), some (.int (iI j)), b3] [] (y) (fun vv yy => vv = none ∧ WA s yy (lenW (cfI s 5) (vF s 5 4) W))) (by omega) (fun j hj hjn ih2 => ?_) ?_ _ _ (by rw [Int.add_zero]; exact o)
    · show ∀ (y : St) (b3 : Option Value), WB s y W (accW (cfI s 5) W (4 * i + j).toNat) → Gs X d 86 20 [some (.ref 5), some (.int (iI i)), some (.int (iI j)), b3] [] (y) _
      intro y b3 o2
      obtain ⟨t1, t2, t3⟩ := o2.1.tale hT
      have fb := hcl i j hi (by omega)
      have w1 := o2.2.2
      have w0 := o2.1.2.2.2
      have z10 := o2.1.2.2.1
      have z12 := o2.2.1
      refine Gs_iload_n p86_20 rfl rfl ?_
      refine Gs_iconst p86_21 ?_
      refine Gs_icmp_ge (tgt := 63) p86_22 (by rfl) (by first | assumption | exact ⟨by omega, by omega⟩ | (split <;> exact ⟨by omega, by omega⟩)) (by first | assumption | exact ⟨by omega, by omega⟩ | (split <;> exact ⟨by omega, by omega⟩)) (fun hc22 => absurd ‹_› (by first | omega | assumption)) (fun hc22 => ?_)
      refine Gs_aload_n p86_25 rfl rfl ?_
      refine Gs_iload_n p86_26 rfl rfl ?_
      refine Gs_iload_n p86_27 rfl rfl ?_
      refine Gs_callV2I p86_28 (by rfl) (by rfl) (by rfl) (Nat.le_of_ble_eq_true rfl) (by decide) (c_comingFrom tale5 t1 ⟨by omega, by omega⟩ ⟨by omega, by omega⟩) (by omega) ?_
      rw [t2]
      refine Gs_ist3 p86_31 (by first | rfl | assumption) ?_
      refine Gs_aload_n p86_32 rfl rfl ?_
      refine Gs_getR p86_33 (by first | rfl | assumption | exact (show isTale _ from by assumption).1 | exact (show isCamp _ _ from by assumption).1 | exact (show isRow _ _ from by assumption).1) (by rfl) ?_
      refine Gs_iload_n p86_36 rfl rfl ?_
      refine Gs_aload_n p86_37 rfl rfl ?_
      refine Gs_getR p86_38 (by first | rfl | assumption | exact (show isTale _ from by assumption).1 | exact (show isCamp _ _ from by assumption).1 | exact (show isRow _ _ from by assumption).1) (by rfl) ?_
      refine Gs_iload_n p86_41 rfl rfl ?_
      refine Gs_callV1I p86_42 (by rfl) (by rfl) (by rfl) (Nat.le_of_ble_eq_true rfl) (by decide) (c_agot (a := 13) row12 rfl ⟨by omega, by omega⟩ (by omega) (by omega) (by omega) (by omega)) (by omega) ?_
      rw [w1 _ fb.1 (by omega)]
      refine Gs_aload_n p86_45 rfl rfl ?_
      refine Gs_getR p86_46 (by first | rfl | assumption | exact (show isTale _ from by assumption).1 | exact (show isCamp _ _ from by assumption).1 | exact (show isRow _ _ from by assumption).1) (by rfl) ?_
      refine Gs_iload_n p86_49 rfl rfl ?_
      refine Gs_callV1I p86_50 (by rfl) (by rfl) (by rfl) (Nat.le_of_ble_eq_true rfl) (by decide) (c_agot (a := 11) row10 rfl ⟨by omega, by omega⟩ (by omega) (by omega) (by omega) (by omega)) (by omega) ?_
      rw [w0 _ hi (by omega)]
      refine Gs_iadd p86_53 ?_
      refine Gs_callV2W p86_54 (by rfl) (by rfl) (by rfl) (Nat.le_of_ble_eq_true rfl) (by decide) (c_aset (a := 13) row12 rfl ⟨by omega, by omega⟩ (by omega) (by omega) (by omega) (by omega)) (by omega) ?_
      refine Gs_iinc2 (b52 := none) p86_57 (by first | rfl | assumption) ?_
      refine Gs_goto (tgt := 20) p86_60 (by rfl) ?_
      refine ih2 _ _ ⟨⟨fun a z a1 a2 => ?_, o2.1.2.1, z10, fun x x0 x1 => ?_⟩, z12, fun x x0 x1 => ?_⟩
      · rw [vA_sA, if_neg (fun e => a2 e.1)]; exact o2.1.1 a z a1 a2
      · rw [vA_sA, if_neg (by omega)]; exact w0 x x0 x1
      · rw [vA_sA, accW_s hi hj hjn]
        by_cases e : x = cfI s 5 i j
        · rw [if_pos ⟨rfl, e⟩, if_pos e, e]
        · rw [if_neg (fun q => e q.2), if_neg e]; exact w1 x x0 x1
    · show ∀ (y : St) (b3 : Option Value), WB s y W (accW (cfI s 5) W (4 * i + (4)).toNat) → Gs X d 86 20 [some (.ref 5), some (.int (iI i)), some (.int (iI (4))), b3] [] (y) _
      intro y b3 o2
      refine Gs_iload_n p86_20 rfl rfl ?_
      refine Gs_iconst p86_21 ?_
      refine Gs_icmp_ge (tgt := 63) p86_22 (by rfl) (by first | assumption | exact ⟨by omega, by omega⟩ | (split <;> exact ⟨by omega, by omega⟩)) (by first | assumption | exact ⟨by omega, by omega⟩ | (split <;> exact ⟨by omega, by omega⟩)) (fun hc22 => ?_) (fun hc22 => absurd ‹_› (by first | omega | assumption))
      refine Gs_iinc1 (b51 := none) p86_63 (by first | rfl | assumption) ?_
      refine Gs_goto (tgt := 10) p86_66 (by rfl) ?_
      have ih3 := ih y (some (.int (iI 4))) b3 (by rw [show 4 * (i + 1) = 4 * i + 4 by omega]; exact o2)
      exact ih3
  · show ∀ (y : St) (b2 b3 : Option Value), WB s y W (accW (cfI s 5) W (4 * ((vF s 5 4))).toNat) → Gs X d 86 10 [some (.ref 5), some (.int (iI ((vF s 5 4)))), b2, b3] [] (y) _
    intro y b2 b3 o
    have e4 := (o.1.tale hT).2.2
    have z12 := o.2.1
    have z10 := o.1.2.2.1
    refine Gs_iload_n p86_10 rfl rfl ?_
    refine Gs_aload_n p86_11 rfl rfl ?_
    refine Gs_getI p86_12 (by first | rfl | assumption | exact (show isTale _ from by assumption).1 | exact (show isCamp _ _ from by assumption).1 | exact (show isRow _ _ from by assumption).1) (by rfl) ?_
    rw [e4]
    refine Gs_icmp_ge (tgt := 69) p86_15 (by rfl) (by first | assumption | exact ⟨by omega, by omega⟩ | (split <;> exact ⟨by omega, by omega⟩)) (by first | assumption | exact ⟨by omega, by omega⟩ | (split <;> exact ⟨by omega, by omega⟩)) (fun hc15 => ?_) (fun hc15 => absurd ‹_› (by first | omega | assumption))
    refine Gs_aload_n p86_69 rfl rfl ?_
    refine Gs_getR p86_70 (by first | rfl | assumption | exact (show isTale _ from by assumption).1 | exact (show isCamp _ _ from by assumption).1 | exact (show isRow _ _ from by assumption).1) (by rfl) ?_
    refine Gs_aload_n p86_73 rfl rfl ?_
    refine Gs_getR p86_74 (by first | rfl | assumption | exact (show isTale _ from by assumption).1 | exact (show isCamp _ _ from by assumption).1 | exact (show isRow _ _ from by assumption).1) (by rfl) ?_
    refine Gs_callV1W p86_77 (by rfl) (by rfl) (by rfl) (Nat.le_of_ble_eq_true rfl) (by decide) (c_abecome (a := 11) (b := 13) row10 row12 rfl rfl (by decide) (by decide) (by omega) (by omega) (by omega)) (by omega) ?_
    refine Gs_vret p86_80 rfl ⟨rfl, ?_⟩
    refine ⟨fun a z a1 a2 => ?_, fun a k a1 a2 => ?_, ?_, fun x x0 x1 => ?_⟩
    · rw [sCA_A, if_neg (fun e => a1 e.1)]; exact o.1.1 a z a1 a2
    · rw [sCA_F, if_neg a1]; exact o.1.2.1 a k a1 a2
    · rw [sCA_F, if_pos ⟨rfl, rfl⟩, z12]
    · rw [sCA_A, z12, if_pos ⟨rfl, x0, x1⟩]; exact o.2.2 x x0 x1

set_option maxHeartbeats 1000000 in
set_option maxRecDepth 4000 in
theorem c_waysBetween {X : vX} {s : St} {l e n : Int} (hT : TaleOk s 5) (hcl : ∀ l w, 0 ≤ l → l < vF s 5 4 → 0 ≤ cfI s 5 l w ∧ cfI s 5 l w < vF s 5 4) (l0 : 0 ≤ l) (l1 : l < 9) (e0 : 0 ≤ e) (e1 : e < 9) (n0 : 0 ≤ n) (n1 : n ≤ 8) : OkI X 6 85 [.ref 5, .int (iI l), .int (iI e), .int (iI n)] s (fun z y => z = itW (cfI s 5) (vF s 5 4) (fun x => if x = l then 1 else 0) n.toNat e ∧ WA s y (itW (cfI s 5) (vF s 5 4) (fun x => if x = l then 1 else 0) n.toNat)) := by
  refine Ok.of (r := vm_m85) (ls := [some (.ref 5), some (.int (iI l)), some (.int (iI e)), some (.int (iI n)), none]) rfl (Nat.le_of_ble_eq_true rfl) rfl (fun d hd => ?_)
  have ob : WA s (sA (cF (sF s 10 1 9) 11 9 0) 11 l 1) (itW (cfI s 5) (vF s 5 4) (fun x => if x = l then 1 else 0) (0 : Int).toNat) := by
    refine ⟨fun a z a1 a2 => ?_, fun a k a1 a2 => ?_, rfl, fun x x0 x1 => ?_⟩
    · rw [vA_sA, if_neg (fun q => a1 q.1), cF_A, if_neg (fun q => a1 q.1)]; rfl
    · rw [vF_sA, cF_F, vF_sF, if_neg a1]
    · show vA _ 11 x = (if x = l then 1 else 0)
      rw [vA_sA]
      by_cases q : x = l
      · rw [if_pos ⟨rfl, q⟩, if_pos q]
      · rw [if_neg (fun r => q r.2), if_neg q, cF_A, if_pos ⟨rfl, x0, x1⟩]
  have e9 : vF (cF (sF s 10 1 9) 11 9 0) 10 1 = 9 := rfl
  refine Gs_aload_n p85_0 rfl rfl ?_
  refine Gs_getR p85_1 (by first | rfl | assumption | exact (show isTale _ from by assumption).1 | exact (show isCamp _ _ from by assumption).1 | exact (show isRow _ _ from by assumption).1) (by rfl) ?_
  refine Gs_iconst p85_4 ?_
  refine Gs_callV1W p85_5 (by rfl) (by rfl) (by rfl) (Nat.le_of_ble_eq_true rfl) (by decide) (c_afill (a := 11) row10 rfl) (by omega) ?_
  refine Gs_aload_n p85_8 rfl rfl ?_
  refine Gs_getR p85_9 (by first | rfl | assumption | exact (show isTale _ from by assumption).1 | exact (show isCamp _ _ from by assumption).1 | exact (show isRow _ _ from by assumption).1) (by rfl) ?_
  refine Gs_iload_n p85_12 rfl rfl ?_
  refine Gs_iconst p85_13 ?_
  refine Gs_callV2W p85_14 (by rfl) (by rfl) (by rfl) (Nat.le_of_ble_eq_true rfl) (by decide) (c_aset (a := 11) row10 rfl ⟨by omega, by omega⟩ (by show 0 ≤ (9 : Int); omega) (by show (9 : Int) ≤ 9; omega) (by omega) (by show l < (9 : Int); omega)) (by omega) ?_
  refine Gs_iconst p85_17 ?_
  refine Gs_ist4 p85_18 (by first | rfl | assumption) ?_
  refine dn (n := n) (P := fun i => ∀ y, WA s y (itW (cfI s 5) (vF s 5 4) (fun x => if x = l then 1 else 0) i.toNat) → Gs X d 85 20 [some (.ref 5), some (.int (iI l)), some (.int (iI e)), some (.int (iI n)), some (.int (iI i))] [] (y) (fun vv yy => ∃ zz : Int, vv = some (.int (iI zz)) ∧ (fun z y => z = itW (cfI s 5) (vF s 5 4) (fun x => if x = l then 1 else 0) n.toNat e ∧ WA s y (itW (cfI s 5) (vF s 5 4) (fun x => if x = l then 1 else 0) n.toNat)) zz yy)) (by omega) (fun i hi hin ih => ?_) ?_ _ ob
  · show ∀ y, WA s y (itW (cfI s 5) (vF s 5 4) (fun x => if x = l then 1 else 0) i.toNat) → Gs X d 85 20 [some (.ref 5), some (.int (iI l)), some (.int (iI e)), some (.int (iI n)), some (.int (iI i))] [] (y) _
    intro y o
    refine Gs_iload p85_20 rfl rfl ?_
    refine Gs_iload_n p85_22 rfl rfl ?_
    refine Gs_icmp_ge (tgt := 36) p85_23 (by rfl) (by first | assumption | exact ⟨by omega, by omega⟩ | (split <;> exact ⟨by omega, by omega⟩)) (by first | assumption | exact ⟨by omega, by omega⟩ | (split <;> exact ⟨by omega, by omega⟩)) (fun hc23 => absurd ‹_› (by first | omega | assumption)) (fun hc23 => ?_)
    refine Gs_aload_n p85_26 rfl rfl ?_
    refine Gs_callV0v p85_27 (by rfl) (by rfl) (by rfl) (Nat.le_of_ble_eq_true rfl) (by decide) (c_lengthen hT hcl o) (by omega) (fun s27 h27 => ?_)
    refine Gs_iinc4 (b54 := none) p85_30 (by first | rfl | assumption) ?_
    refine Gs_goto (tgt := 20) p85_33 (by rfl) ?_
    exact ih _ (by rw [itW_s hi]; exact h27)
  · show ∀ y, WA s y (itW (cfI s 5) (vF s 5 4) (fun x => if x = l then 1 else 0) (n).toNat) → Gs X d 85 20 [some (.ref 5), some (.int (iI l)), some (.int (iI e)), some (.int (iI n)), some (.int (iI (n)))] [] (y) _
    intro y o
    have z10 := o.2.2.1
    refine Gs_iload p85_20 rfl rfl ?_
    refine Gs_iload_n p85_22 rfl rfl ?_
    refine Gs_icmp_ge (tgt := 36) p85_23 (by rfl) (by first | assumption | exact ⟨by omega, by omega⟩ | (split <;> exact ⟨by omega, by omega⟩)) (by first | assumption | exact ⟨by omega, by omega⟩ | (split <;> exact ⟨by omega, by omega⟩)) (fun hc23 => ?_) (fun hc23 => absurd ‹_› (by first | omega | assumption))
    refine Gs_aload_n p85_36 rfl rfl ?_
    refine Gs_getR p85_37 (by first | rfl | assumption | exact (show isTale _ from by assumption).1 | exact (show isCamp _ _ from by assumption).1 | exact (show isRow _ _ from by assumption).1) (by rfl) ?_
    refine Gs_iload_n p85_40 rfl rfl ?_
    refine Gs_callV1I p85_41 (by rfl) (by rfl) (by rfl) (Nat.le_of_ble_eq_true rfl) (by decide) (c_agot (a := 11) row10 rfl ⟨by omega, by omega⟩ (by omega) (by omega) (by omega) (by omega)) (by omega) ?_
    refine Gs_iret p85_44 rfl ⟨_, rfl, ?_⟩
    exact ⟨o.2.2.2 e e0 e1, o⟩

set_option maxHeartbeats 1000000 in
set_option maxRecDepth 4000 in
theorem k_rows {X : vX} {s : St} {k l v n : Int} (hT : TaleOk s 5) (hcl : ∀ l w, 0 ≤ l → l < vF s 5 4 → 0 ≤ cfI s 5 l w ∧ cfI s 5 l w < vF s 5 4) (hC : CampOk s 14 n) (hv : ((0 ≤ k ∧ k < n) ∧ (0 ≤ l ∧ l < vF s 5 4) ∧ (0 ≤ v ∧ v ≤ 8))) (hi1 : 1 ≤ cg s 14 k 0) (hl : 0 ≤ cg s 14 k 1 ∧ cg s 14 k 1 < 9) : OkI X 7 115 [.ref 0, .int (iI k), .int (iI l), .int (iI v)] s (fun z y => z = itW (cfI s 5) (vF s 5 4) (fun x => if x = l then 1 else 0) v.toNat (cg s 14 k 1) ∧ WA s y (itW (cfI s 5) (vF s 5 4) (fun x => if x = l then 1 else 0) v.toNat)) := by
  refine Ok.of (r := vm_m115) (ls := [some (.ref 0), some (.int (iI k)), some (.int (iI l)), some (.int (iI v))]) rfl (Nat.le_of_ble_eq_true rfl) rfl (fun d hd => ?_)
  obtain ⟨t1, t2, t3, t4, t5, t6, t7⟩ := id hT
  obtain ⟨q1, q2, q3⟩ := hv
  have n4 := hC.2.1
  refine Gs_aload_n p115_0 rfl rfl ?_
  refine Gs_getR p115_1 (by first | rfl | assumption | exact (show isTale _ from by assumption).1 | exact (show isCamp _ _ from by assumption).1 | exact (show isRow _ _ from by assumption).1) (by rfl) ?_
  refine Gs_iload_n p115_4 rfl rfl ?_
  refine Gs_callV1I p115_5 (by rfl) (by rfl) (by first | rfl | assumption | exact (show isTale _ from by assumption).1 | exact (show isCamp _ _ from by assumption).1 | exact (show isRow _ _ from by assumption).1) (Nat.le_of_ble_eq_true rfl) (by decide) (c_isCompany camp14 hC ⟨by omega, by omega⟩) (by omega) ?_
  refine Gs_ifb_eq (tgt := 32) p115_8 (by rfl) (fun h8 => ?_) (fun h8 => ?_)
  · refine Gs_iconst p115_32 ?_
    refine Gs_iret p115_33 rfl ⟨_, rfl, ?_⟩
    exfalso; omega
  · refine Gs_aload_n p115_11 rfl rfl ?_
    refine Gs_getR p115_12 (by first | rfl | assumption | exact (show isTale _ from by assumption).1 | exact (show isCamp _ _ from by assumption).1 | exact (show isRow _ _ from by assumption).1) (by rfl) ?_
    refine Gs_iload_n p115_15 rfl rfl ?_
    refine Gs_callV1I p115_16 (by rfl) (by rfl) (by first | rfl | assumption | exact (show isTale _ from by assumption).1 | exact (show isCamp _ _ from by assumption).1 | exact (show isRow _ _ from by assumption).1) (Nat.le_of_ble_eq_true rfl) (by decide) (c_isLine tale5 hT ⟨by omega, by omega⟩) (by omega) ?_
    refine Gs_ifb_eq (tgt := 32) p115_19 (by rfl) (fun h19 => ?_) (fun h19 => ?_)
    · refine Gs_iconst p115_32 ?_
      refine Gs_iret p115_33 rfl ⟨_, rfl, ?_⟩
      exfalso; omega
    · refine Gs_iload_n p115_22 rfl rfl ?_
      refine Gs_iconst p115_23 ?_
      refine Gs_bipush p115_24 (by decide) ?_
      refine Gs_callS3I p115_26 (by rfl) (Nat.le_of_ble_eq_true rfl) (by decide) (c_within ⟨by omega, by omega⟩ ⟨by omega, by omega⟩ ⟨by omega, by omega⟩) (by omega) ?_
      refine Gs_ifb_ne (tgt := 34) p115_29 (by rfl) (fun h29 => ?_) (fun h29 => ?_)
      · refine Gs_aload_n p115_34 rfl rfl ?_
        refine Gs_getR p115_35 (by first | rfl | assumption | exact (show isTale _ from by assumption).1 | exact (show isCamp _ _ from by assumption).1 | exact (show isRow _ _ from by assumption).1) (by rfl) ?_
        refine Gs_iload_n p115_38 rfl rfl ?_
        refine Gs_callV1I p115_39 (by rfl) (by rfl) (by first | rfl | assumption | exact (show isTale _ from by assumption).1 | exact (show isCamp _ _ from by assumption).1 | exact (show isRow _ _ from by assumption).1) (Nat.le_of_ble_eq_true rfl) (by decide) (c_isIn camp14 hC (by omega) (by omega)) (by omega) ?_
        refine Gs_ifb_eq (tgt := 66) p115_42 (by rfl) (fun h42 => ?_) (fun h42 => ?_)
        · refine Gs_bipush p115_66 (by decide) ?_
          refine Gs_iret p115_68 rfl ⟨_, rfl, ?_⟩
          first
            | exact h60
            | (exfalso; omega)
        · refine Gs_aload_n p115_45 rfl rfl ?_
          refine Gs_getR p115_46 (by first | rfl | assumption | exact (show isTale _ from by assumption).1 | exact (show isCamp _ _ from by assumption).1 | exact (show isRow _ _ from by assumption).1) (by rfl) ?_
          refine Gs_iload_n p115_49 rfl rfl ?_
          refine Gs_aload_n p115_50 rfl rfl ?_
          refine Gs_getR p115_51 (by first | rfl | assumption | exact (show isTale _ from by assumption).1 | exact (show isCamp _ _ from by assumption).1 | exact (show isRow _ _ from by assumption).1) (by rfl) ?_
          refine Gs_iload_n p115_54 rfl rfl ?_
          refine Gs_iconst p115_55 ?_
          refine Gs_callV2I p115_56 (by rfl) (by rfl) (by first | rfl | assumption | exact (show isTale _ from by assumption).1 | exact (show isCamp _ _ from by assumption).1 | exact (show isRow _ _ from by assumption).1) (Nat.le_of_ble_eq_true rfl) (by decide) (c_Cget camp14 hC (by omega) (by omega) (by omega) (by omega)) (by omega) ?_
          refine Gs_iload_n p115_59 rfl rfl ?_
          refine Gs_callV3i p115_60 (by rfl) (by rfl) (by rfl) (Nat.le_of_ble_eq_true rfl) (by decide) (c_waysBetween hT hcl (by omega) (by omega) hl.1 hl.2 q3.1 q3.2) (by omega) (fun z60 s60 h60 => ?_)
          refine Gs_goto (tgt := 68) p115_63 (by rfl) ?_
          refine Gs_iret p115_68 rfl ⟨_, rfl, ?_⟩
          first
            | exact h60
            | (exfalso; omega)
      · refine Gs_iconst p115_32 ?_
        refine Gs_iret p115_33 rfl ⟨_, rfl, ?_⟩
        exfalso; omega

set_option maxHeartbeats 1000000 in
set_option maxRecDepth 4000 in
theorem k_rows_no {X : vX} {s : St} {k l v n : Int} (gk : rg k) (gl : rg l) (gv : rg v) (hT : TaleOk s 5) (hC : CampOk s 14 n) (hno : ¬ (((0 ≤ k ∧ k < n) ∧ (0 ≤ l ∧ l < vF s 5 4) ∧ (0 ≤ v ∧ v ≤ 8)) ∧ 1 ≤ cg s 14 k 0)) : OkI X 7 115 [.ref 0, .int (iI k), .int (iI l), .int (iI v)] s (Is1 (if ((0 ≤ k ∧ k < n) ∧ (0 ≤ l ∧ l < vF s 5 4) ∧ (0 ≤ v ∧ v ≤ 8)) then -2 else -1) s) := by
  refine Ok.of (r := vm_m115) (ls := [some (.ref 0), some (.int (iI k)), some (.int (iI l)), some (.int (iI v))]) rfl (Nat.le_of_ble_eq_true rfl) rfl (fun d hd => ?_)
  refine Gs_aload_n p115_0 rfl rfl ?_
  refine Gs_getR p115_1 (by first | rfl | assumption | exact (show isTale _ from by assumption).1 | exact (show isCamp _ _ from by assumption).1 | exact (show isRow _ _ from by assumption).1) (by rfl) ?_
  refine Gs_iload_n p115_4 rfl rfl ?_
  refine Gs_callV1I p115_5 (by rfl) (by rfl) (by first | rfl | assumption | exact (show isTale _ from by assumption).1 | exact (show isCamp _ _ from by assumption).1 | exact (show isRow _ _ from by assumption).1) (Nat.le_of_ble_eq_true rfl) (by decide) (c_isCompany camp14 hC gk) (by omega) ?_
  refine Gs_ifb_eq (tgt := 32) p115_8 (by rfl) (fun h8 => ?_) (fun h8 => ?_)
  · refine Gs_iconst p115_32 ?_
    refine Gs_iret p115_33 rfl ⟨_, rfl, ?_⟩
    refine ⟨?_, rfl⟩
    first | (rw [if_neg (by omega)]; done) | (rw [if_pos (by omega)]; done)
  · refine Gs_aload_n p115_11 rfl rfl ?_
    refine Gs_getR p115_12 (by first | rfl | assumption | exact (show isTale _ from by assumption).1 | exact (show isCamp _ _ from by assumption).1 | exact (show isRow _ _ from by assumption).1) (by rfl) ?_
    refine Gs_iload_n p115_15 rfl rfl ?_
    refine Gs_callV1I p115_16 (by rfl) (by rfl) (by first | rfl | assumption | exact (show isTale _ from by assumption).1 | exact (show isCamp _ _ from by assumption).1 | exact (show isRow _ _ from by assumption).1) (Nat.le_of_ble_eq_true rfl) (by decide) (c_isLine tale5 hT gl) (by omega) ?_
    refine Gs_ifb_eq (tgt := 32) p115_19 (by rfl) (fun h19 => ?_) (fun h19 => ?_)
    · refine Gs_iconst p115_32 ?_
      refine Gs_iret p115_33 rfl ⟨_, rfl, ?_⟩
      refine ⟨?_, rfl⟩
      first | (rw [if_neg (by omega)]; done) | (rw [if_pos (by omega)]; done)
    · refine Gs_iload_n p115_22 rfl rfl ?_
      refine Gs_iconst p115_23 ?_
      refine Gs_bipush p115_24 (by decide) ?_
      refine Gs_callS3I p115_26 (by rfl) (Nat.le_of_ble_eq_true rfl) (by decide) (c_within gv ⟨by omega, by omega⟩ ⟨by omega, by omega⟩) (by omega) ?_
      refine Gs_ifb_ne (tgt := 34) p115_29 (by rfl) (fun h29 => ?_) (fun h29 => ?_)
      · refine Gs_aload_n p115_34 rfl rfl ?_
        refine Gs_getR p115_35 (by first | rfl | assumption | exact (show isTale _ from by assumption).1 | exact (show isCamp _ _ from by assumption).1 | exact (show isRow _ _ from by assumption).1) (by rfl) ?_
        refine Gs_iload_n p115_38 rfl rfl ?_
        refine Gs_callV1I p115_39 (by rfl) (by rfl) (by first | rfl | assumption | exact (show isTale _ from by assumption).1 | exact (show isCamp _ _ from by assumption).1 | exact (show isRow _ _ from by assumption).1) (Nat.le_of_ble_eq_true rfl) (by decide) (c_isIn camp14 hC (by omega) (by omega)) (by omega) ?_
        refine Gs_ifb_eq (tgt := 66) p115_42 (by rfl) (fun h42 => ?_) (fun h42 => ?_)
        · refine Gs_bipush p115_66 (by decide) ?_
          refine Gs_iret p115_68 rfl ⟨_, rfl, ?_⟩
          refine ⟨?_, rfl⟩
          first | (rw [if_neg (by omega)]; done) | (rw [if_pos (by omega)]; done)
        · exfalso; omega
      · refine Gs_iconst p115_32 ?_
        refine Gs_iret p115_33 rfl ⟨_, rfl, ?_⟩
        refine ⟨?_, rfl⟩
        first | (rw [if_neg (by omega)]; done) | (rw [if_pos (by omega)]; done)

def WM (s u : St) (W : Int → Int) : Prop := (∀ a z, a ≠ 111 → a ≠ 112 → vA u a z = vA s a z) ∧ (∀ a k, vF u a k = vF s a k) ∧ (∀ x, 0 ≤ x → x < 9 → vA u 111 x = W x)
set_option maxHeartbeats 4000000 in
set_option maxRecDepth 4000 in
theorem m_rows {X : vX} {s : St} {k l v : Int} (hT : MT s) (hm : MC s 98 (vA s 96 2)) (hcl : ∀ l w, 0 ≤ l → l < vA s 96 0 → 0 ≤ w → w < 4 → 0 ≤ cfM s l w ∧ cfM s l w < vA s 96 0) (hv : ((0 ≤ k ∧ k < vA s 96 2) ∧ (0 ≤ l ∧ l < vA s 96 0) ∧ (0 ≤ v ∧ v ≤ 8))) (hi1 : 0 < vA s 98 k) (hl : 0 ≤ vA s 98 (4 + k) ∧ vA s 98 (4 + k) < 9) : OkI X 4 193 [.ref 95, .int (iI k), .int (iI l), .int (iI v)] s (fun z y => z = itW (cfM s) (vA s 96 0) (fun x => if x = l then 1 else 0) v.toNat (vA s 98 (4 + k)) ∧ WM s y (itW (cfM s) (vA s 96 0) (fun x => if x = l then 1 else 0) v.toNat)) := by
  refine Ok.of (r := vm_m193) (ls := [some (.ref 95), some (.int (iI k)), some (.int (iI l)), some (.int (iI v)), none, none, none]) rfl (Nat.le_of_ble_eq_true rfl) rfl (fun d hd => ?_)
  obtain ⟨a1, a2, a3, a4, a5, a6, a7, a8⟩ := id hT
  obtain ⟨q1, q2, q3⟩ := hv
  refine Gs_aload_n p193_0 rfl rfl ?_
  refine Gs_iload_n p193_1 rfl rfl ?_
  refine Gs_callV1I p193_2 (by rfl) (by rfl) (by first | rfl | assumption | exact (show isTale _ from by assumption).1 | exact (show isCamp _ _ from by assumption).1 | exact (show isRow _ _ from by assumption).1) (Nat.le_of_ble_eq_true rfl) (by decide) (c_misCompany hT ⟨by omega, by omega⟩) (by omega) ?_
  refine Gs_ifb_eq (tgt := 28) p193_5 (by rfl) (fun h5 => ?_) (fun h5 => ?_)
  · refine Gs_iconst p193_28 ?_
    refine Gs_iret p193_29 rfl ⟨_, rfl, ?_⟩
    exfalso; omega
  · refine Gs_aload_n p193_8 rfl rfl ?_
    refine Gs_iload_n p193_9 rfl rfl ?_
    refine Gs_callV1I p193_10 (by rfl) (by rfl) (by first | rfl | assumption | exact (show isTale _ from by assumption).1 | exact (show isCamp _ _ from by assumption).1 | exact (show isRow _ _ from by assumption).1) (Nat.le_of_ble_eq_true rfl) (by decide) (c_misLine hT ⟨by omega, by omega⟩) (by omega) ?_
    refine Gs_ifb_eq (tgt := 28) p193_13 (by rfl) (fun h13 => ?_) (fun h13 => ?_)
    · refine Gs_iconst p193_28 ?_
      refine Gs_iret p193_29 rfl ⟨_, rfl, ?_⟩
      exfalso; omega
    · refine Gs_iload_n p193_16 rfl rfl ?_
      refine Gs_i2l p193_17 (by first | assumption | exact ⟨by omega, by omega⟩ | (split <;> exact ⟨by omega, by omega⟩)) ?_
      refine Gs_lconst (z := 0) p193_18 (by decide) ?_
      refine Gs_ldc2 (z := (8)) p193_19 (by decide) ?_
      refine Gs_callS3I p193_22 (by rfl) (Nat.le_of_ble_eq_true rfl) (by decide) (c_in ⟨by omega, by omega⟩ ⟨by omega, by omega⟩ ⟨by omega, by omega⟩) (by omega) ?_
      refine Gs_ifb_ne (tgt := 30) p193_25 (by rfl) (fun h25 => ?_) (fun h25 => ?_)
      · refine Gs_aload_n p193_30 rfl rfl ?_
        refine Gs_iload_n p193_31 rfl rfl ?_
        refine Gs_callV1I p193_32 (by rfl) (by rfl) (by first | rfl | assumption | exact (show isTale _ from by assumption).1 | exact (show isCamp _ _ from by assumption).1 | exact (show isRow _ _ from by assumption).1) (Nat.le_of_ble_eq_true rfl) (by decide) (c_misIn hm (by omega) (by omega)) (by omega) ?_
        refine Gs_ifb_ne (tgt := 41) p193_35 (by rfl) (fun h35 => ?_) (fun h35 => ?_)
        · refine Gs_iconst p193_41 ?_
          refine Gs_ist4 p193_42 (by first | rfl | assumption) ?_
          refine dn (n := (9 : Int)) (P := fun q => ∀ (y : St) (b5 b6 : Option Value), (∀ a z, a ≠ 111 → vA y a z = vA s a z) → (∀ a k, vF y a k = vF s a k) → (∀ x, 0 ≤ x → x < q → vA y 111 x = (if x = l then 1 else 0)) → Gs X d 193 44 [some (.ref 95), some (.int (iI k)), some (.int (iI l)), some (.int (iI v)), some (.int (iI q)), b5, b6] [] (y) (fun vv yy => ∃ zz : Int, vv = some (.int (iI zz)) ∧ (fun z y => z = itW (cfM s) (vA s 96 0) (fun x => if x = l then 1 else 0) v.toNat (vA s 98 (4 + k)) ∧ WM s y (itW (cfM s) (vA s 96 0) (fun x => if x = l then 1 else 0) v.toNat)) zz yy)) (by omega) (fun q hq hqn ih0 => ?_) ?_ _ none none (fun _ _ _ => rfl) (fun _ _ => rfl) (fun x x0 x1 => absurd x1 (by omega))
          · show ∀ (y : St) (b5 b6 : Option Value), (∀ a z, a ≠ 111 → vA y a z = vA s a z) → (∀ a k, vF y a k = vF s a k) → (∀ x, 0 ≤ x → x < q → vA y 111 x = (if x = l then 1 else 0)) → Gs X d 193 44 [some (.ref 95), some (.int (iI k)), some (.int (iI l)), some (.int (iI v)), some (.int (iI q)), b5, b6] [] (y) _
            intro y b5 b6 oa ob oc
            refine Gs_iload p193_44 rfl rfl ?_
            refine Gs_bipush p193_46 (by decide) ?_
            refine Gs_icmp_ge (tgt := 75) p193_48 (by rfl) (by first | assumption | exact ⟨by omega, by omega⟩ | (split <;> exact ⟨by omega, by omega⟩)) (by first | assumption | exact ⟨by omega, by omega⟩ | (split <;> exact ⟨by omega, by omega⟩)) (fun hc48 => absurd ‹_› (by first | omega | assumption)) (fun hc48 => ?_)
            refine Gs_aload_n p193_51 rfl rfl ?_
            refine Gs_getR p193_52 (by first | rfl | assumption | exact (show isTale _ from by assumption).1 | exact (show isCamp _ _ from by assumption).1 | exact (show isRow _ _ from by assumption).1) (by rfl) ?_
            refine Gs_iload p193_55 rfl rfl ?_
            refine Gs_iload p193_57 rfl rfl ?_
            refine Gs_iload_n p193_59 rfl rfl ?_
            refine Gs_icmp_ne (tgt := 67) p193_60 (by rfl) (by first | assumption | exact ⟨by omega, by omega⟩ | (split <;> exact ⟨by omega, by omega⟩)) (by first | assumption | exact ⟨by omega, by omega⟩ | (split <;> exact ⟨by omega, by omega⟩)) (fun h60 => ?_) (fun h60 => ?_)
            · refine Gs_iconst p193_67 ?_
              refine Gs_iast p193_68 (by first | rfl | assumption | exact (show isTale _ from by assumption).1 | exact (show isCamp _ _ from by assumption).1 | exact (show isRow _ _ from by assumption).1) (by omega) (by omega) (by omega) ?_
              refine Gs_iinc4 (b54 := none) p193_69 (by first | rfl | assumption) ?_
              refine Gs_goto (tgt := 44) p193_72 (by rfl) ?_
              refine ih0 _ _ _ (fun a z a1 => by rw [vA_sA, if_neg (fun e => a1 e.1)]; exact oa a z a1) ob (fun x x0 x1 => ?_)
              rw [vA_sA]
              by_cases e : x = q
              · rw [if_pos ⟨rfl, e⟩, e]
                first
                | (rw [if_pos (by assumption)]; done)
                | (rw [if_neg (by assumption)]; done)
                | (rw [if_pos (by omega)]; done)
              · rw [if_neg (fun r => e r.2)]; exact oc x x0 (by omega)
            · refine Gs_iconst p193_63 ?_
              refine Gs_goto (tgt := 68) p193_64 (by rfl) ?_
              refine Gs_iast p193_68 (by first | rfl | assumption | exact (show isTale _ from by assumption).1 | exact (show isCamp _ _ from by assumption).1 | exact (show isRow _ _ from by assumption).1) (by omega) (by omega) (by omega) ?_
              refine Gs_iinc4 (b54 := none) p193_69 (by first | rfl | assumption) ?_
              refine Gs_goto (tgt := 44) p193_72 (by rfl) ?_
              refine ih0 _ _ _ (fun a z a1 => by rw [vA_sA, if_neg (fun e => a1 e.1)]; exact oa a z a1) ob (fun x x0 x1 => ?_)
              rw [vA_sA]
              by_cases e : x = q
              · rw [if_pos ⟨rfl, e⟩, e]
                first
                | (rw [if_pos (by assumption)]; done)
                | (rw [if_neg (by assumption)]; done)
                | (rw [if_pos (by omega)]; done)
              · rw [if_neg (fun r => e r.2)]; exact oc x x0 (by omega)
          · show ∀ (y : St) (b5 b6 : Option Value), (∀ a z, a ≠ 111 → vA y a z = vA s a z) → (∀ a k, vF y a k = vF s a k) → (∀ x, 0 ≤ x → x < ((9 : Int)) → vA y 111 x = (if x = l then 1 else 0)) → Gs X d 193 44 [some (.ref 95), some (.int (iI k)), some (.int (iI l)), some (.int (iI v)), some (.int (iI ((9 : Int)))), b5, b6] [] (y) _
            intro y b5 b6 oa ob oc
            have op : WM s y (itW (cfM s) (vA s 96 0) (fun x => if x = l then 1 else 0) (0 : Int).toNat) := ⟨fun a z a1 a2 => oa a z a1, ob, oc⟩
            refine Gs_iload p193_44 rfl rfl ?_
            refine Gs_bipush p193_46 (by decide) ?_
            refine Gs_icmp_ge (tgt := 75) p193_48 (by rfl) (by first | assumption | exact ⟨by omega, by omega⟩ | (split <;> exact ⟨by omega, by omega⟩)) (by first | assumption | exact ⟨by omega, by omega⟩ | (split <;> exact ⟨by omega, by omega⟩)) (fun hc48 => ?_) (fun hc48 => absurd ‹_› (by first | omega | assumption))
            refine Gs_iconst p193_75 ?_
            refine Gs_ist4 p193_76 (by first | rfl | assumption) ?_
            refine dn (n := v) (P := fun i => ∀ (y : St) (b5 b6 : Option Value), WM s y (itW (cfM s) (vA s 96 0) (fun x => if x = l then 1 else 0) i.toNat) → Gs X d 193 78 [some (.ref 95), some (.int (iI k)), some (.int (iI l)), some (.int (iI v)), some (.int (iI i)), b5, b6] [] (y) (fun vv yy => ∃ zz : Int, vv = some (.int (iI zz)) ∧ (fun z y => z = itW (cfM s) (vA s 96 0) (fun x => if x = l then 1 else 0) v.toNat (vA s 98 (4 + k)) ∧ WM s y (itW (cfM s) (vA s 96 0) (fun x => if x = l then 1 else 0) v.toNat)) zz yy)) (by omega) (fun i hi hin ih => ?_) ?_ _ _ _ op
            · show ∀ (y : St) (b5 b6 : Option Value), WM s y (itW (cfM s) (vA s 96 0) (fun x => if x = l then 1 else 0) i.toNat) → Gs X d 193 78 [some (.ref 95), some (.int (iI k)), some (.int (iI l)), some (.int (iI v)), some (.int (iI i)), b5, b6] [] (y) _
              intro y b5 b6 o
              refine Gs_iload p193_78 rfl rfl ?_
              refine Gs_iload_n p193_80 rfl rfl ?_
              refine Gs_icmp_ge (tgt := 187) p193_81 (by rfl) (by first | assumption | exact ⟨by omega, by omega⟩ | (split <;> exact ⟨by omega, by omega⟩)) (by first | assumption | exact ⟨by omega, by omega⟩ | (split <;> exact ⟨by omega, by omega⟩)) (fun hc81 => absurd ‹_› (by first | omega | assumption)) (fun hc81 => ?_)
              refine Gs_iconst p193_84 ?_
              refine Gs_ist5 p193_85 (by first | rfl | assumption) ?_
              refine dn (n := (9 : Int)) (P := fun j => ∀ y, WM s y (itW (cfM s) (vA s 96 0) (fun x => if x = l then 1 else 0) i.toNat) → (∀ x, 0 ≤ x → x < j → vA y 112 x = 0) → Gs X d 193 87 [some (.ref 95), some (.int (iI k)), some (.int (iI l)), some (.int (iI v)), some (.int (iI i)), some (.int (iI j)), b6] [] (y) (fun vv yy => ∃ zz : Int, vv = some (.int (iI zz)) ∧ (fun z y => z = itW (cfM s) (vA s 96 0) (fun x => if x = l then 1 else 0) v.toNat (vA s 98 (4 + k)) ∧ WM s y (itW (cfM s) (vA s 96 0) (fun x => if x = l then 1 else 0) v.toNat)) zz yy)) (by omega) (fun j hj hjn iha => ?_) ?_ _ o (fun x x0 x1 => absurd x1 (by omega))
              · show ∀ y, WM s y (itW (cfM s) (vA s 96 0) (fun x => if x = l then 1 else 0) i.toNat) → (∀ x, 0 ≤ x → x < j → vA y 112 x = 0) → Gs X d 193 87 [some (.ref 95), some (.int (iI k)), some (.int (iI l)), some (.int (iI v)), some (.int (iI i)), some (.int (iI j)), b6] [] (y) _
                intro y oa ob
                refine Gs_iload p193_87 rfl rfl ?_
                refine Gs_bipush p193_89 (by decide) ?_
                refine Gs_icmp_ge (tgt := 108) p193_91 (by rfl) (by first | assumption | exact ⟨by omega, by omega⟩ | (split <;> exact ⟨by omega, by omega⟩)) (by first | assumption | exact ⟨by omega, by omega⟩ | (split <;> exact ⟨by omega, by omega⟩)) (fun hc91 => absurd ‹_› (by first | omega | assumption)) (fun hc91 => ?_)
                refine Gs_aload_n p193_94 rfl rfl ?_
                refine Gs_getR p193_95 (by first | rfl | assumption | exact (show isTale _ from by assumption).1 | exact (show isCamp _ _ from by assumption).1 | exact (show isRow _ _ from by assumption).1) (by rfl) ?_
                refine Gs_iload p193_98 rfl rfl ?_
                refine Gs_iconst p193_100 ?_
                refine Gs_iast p193_101 (by first | rfl | assumption | exact (show isTale _ from by assumption).1 | exact (show isCamp _ _ from by assumption).1 | exact (show isRow _ _ from by assumption).1) (by omega) (by omega) (by omega) ?_
                refine Gs_iinc5 (b55 := none) p193_102 (by first | rfl | assumption) ?_
                refine Gs_goto (tgt := 87) p193_105 (by rfl) ?_
                refine iha _ ⟨fun a z a1 a2 => ?_, oa.2.1, fun x x0 x1 => ?_⟩ (fun x x0 x1 => ?_)
                · rw [vA_sA, if_neg (fun e => a2 e.1)]; exact oa.1 a z a1 a2
                · rw [vA_sA, if_neg (by omega)]; exact oa.2.2 x x0 x1
                · rw [vA_sA]
                  by_cases e : x = j
                  · rw [if_pos ⟨rfl, e⟩]
                  · rw [if_neg (fun q => e q.2)]; exact ob x x0 (by omega)
              · show ∀ y, WM s y (itW (cfM s) (vA s 96 0) (fun x => if x = l then 1 else 0) i.toNat) → (∀ x, 0 ≤ x → x < ((9 : Int)) → vA y 112 x = 0) → Gs X d 193 87 [some (.ref 95), some (.int (iI k)), some (.int (iI l)), some (.int (iI v)), some (.int (iI i)), some (.int (iI ((9 : Int)))), b6] [] (y) _
                intro y oa ob
                refine Gs_iload p193_87 rfl rfl ?_
                refine Gs_bipush p193_89 (by decide) ?_
                refine Gs_icmp_ge (tgt := 108) p193_91 (by rfl) (by first | assumption | exact ⟨by omega, by omega⟩ | (split <;> exact ⟨by omega, by omega⟩)) (by first | assumption | exact ⟨by omega, by omega⟩ | (split <;> exact ⟨by omega, by omega⟩)) (fun hc91 => ?_) (fun hc91 => absurd ‹_› (by first | omega | assumption))
                refine Gs_iconst p193_108 ?_
                refine Gs_ist5 p193_109 (by first | rfl | assumption) ?_
                refine dn (n := (vA s 96 0)) (P := fun m => ∀ (y : St) (b6 : Option Value), WM s y (itW (cfM s) (vA s 96 0) (fun x => if x = l then 1 else 0) i.toNat) → (∀ x, 0 ≤ x → x < 9 → vA y 112 x = accW (cfM s) (itW (cfM s) (vA s 96 0) (fun x => if x = l then 1 else 0) i.toNat) (4 * m).toNat x) → Gs X d 193 111 [some (.ref 95), some (.int (iI k)), some (.int (iI l)), some (.int (iI v)), some (.int (iI i)), some (.int (iI m)), b6] [] (y) (fun vv yy => ∃ zz : Int, vv = some (.int (iI zz)) ∧ (fun z y => z = itW (cfM s) (vA s 96 0) (fun x => if x = l then 1 else 0) v.toNat (vA s 98 (4 + k)) ∧ WM s y (itW (cfM s) (vA s 96 0) (fun x => if x = l then 1 else 0) v.toNat)) zz yy)) (by omega) (fun m hm hmn ihb => ?_) ?_ _ _ oa ob
                · show ∀ (y : St) (b6 : Option Value), WM s y (itW (cfM s) (vA s 96 0) (fun x => if x = l then 1 else 0) i.toNat) → (∀ x, 0 ≤ x → x < 9 → vA y 112 x = accW (cfM s) (itW (cfM s) (vA s 96 0) (fun x => if x = l then 1 else 0) i.toNat) (4 * m).toNat x) → Gs X d 193 111 [some (.ref 95), some (.int (iI k)), some (.int (iI l)), some (.int (iI v)), some (.int (iI i)), some (.int (iI m)), b6] [] (y) _
                  intro y b6 oc od
                  have hm0 := hm
                  refine Gs_iload p193_111 rfl rfl ?_
                  refine Gs_aload_n p193_113 rfl rfl ?_
                  refine Gs_getR p193_114 (by first | rfl | assumption | exact (show isTale _ from by assumption).1 | exact (show isCamp _ _ from by assumption).1 | exact (show isRow _ _ from by assumption).1) (by rfl) ?_
                  refine Gs_iconst p193_117 ?_
                  refine Gs_iald p193_118 (by first | rfl | assumption | exact (show isTale _ from by assumption).1 | exact (show isCamp _ _ from by assumption).1 | exact (show isRow _ _ from by assumption).1) (by omega) (by omega) (by omega) ?_
                  rw [oc.1 96 0 (by decide) (by decide)]
                  refine Gs_icmp_ge (tgt := 166) p193_119 (by rfl) (by first | assumption | exact ⟨by omega, by omega⟩ | (split <;> exact ⟨by omega, by omega⟩)) (by first | assumption | exact ⟨by omega, by omega⟩ | (split <;> exact ⟨by omega, by omega⟩)) (fun hc119 => absurd ‹_› (by first | omega | assumption)) (fun hc119 => ?_)
                  refine Gs_iconst p193_122 ?_
                  refine Gs_ist6 p193_123 (by first | rfl | assumption) ?_
                  refine dn (n := 4) (P := fun j => ∀ y, WM s y (itW (cfM s) (vA s 96 0) (fun x => if x = l then 1 else 0) i.toNat) → (∀ x, 0 ≤ x → x < 9 → vA y 112 x = accW (cfM s) (itW (cfM s) (vA s 96 0) (fun x => if x = l then 1 else 0) i.toNat) (4 * m + j).toNat x) → Gs X d 193 125 [some (.ref 95), some (.int (iI k)), some (.int (iI l)), some (.int (iI v)), some (.int (iI i)), some (.int (iI m)), some (.int (iI j))] [] (y) (fun vv yy => ∃ zz : Int, vv = some (.int (iI zz)) ∧ (fun z y => z = itW (cfM s) (vA s 96 0) (fun x => if x = l then 1 else 0) v.toNat (vA s 98 (4 + k)) ∧ WM s y (itW (cfM s) (vA s 96 0) (fun x => if x = l then 1 else 0) v.toNat)) zz yy)) (by omega) (fun j hj hjn ihc => ?_) ?_ _ oc (by rw [Int.add_zero]; exact od)
                  · show ∀ y, WM s y (itW (cfM s) (vA s 96 0) (fun x => if x = l then 1 else 0) i.toNat) → (∀ x, 0 ≤ x → x < 9 → vA y 112 x = accW (cfM s) (itW (cfM s) (vA s 96 0) (fun x => if x = l then 1 else 0) i.toNat) (4 * m + j).toNat x) → Gs X d 193 125 [some (.ref 95), some (.int (iI k)), some (.int (iI l)), some (.int (iI v)), some (.int (iI i)), some (.int (iI m)), some (.int (iI j))] [] (y) _
                    intro y oe of
                    have e96 : ∀ z, vA y 96 z = vA s 96 z := fun z => oe.1 96 z (by decide) (by decide)
                    have eC : ∀ l w, cfM y l w = cfM s l w := fun l w => by unfold cfM; rw [bhM_cong e96]
                    have fb := hcl m j hm0 (by omega) hj hjn
                    refine Gs_iload p193_125 rfl rfl ?_
                    refine Gs_iconst p193_127 ?_
                    refine Gs_icmp_ge (tgt := 160) p193_128 (by rfl) (by first | assumption | exact ⟨by omega, by omega⟩ | (split <;> exact ⟨by omega, by omega⟩)) (by first | assumption | exact ⟨by omega, by omega⟩ | (split <;> exact ⟨by omega, by omega⟩)) (fun hc128 => absurd ‹_› (by first | omega | assumption)) (fun hc128 => ?_)
                    refine Gs_aload_n p193_131 rfl rfl ?_
                    refine Gs_getR p193_132 (by first | rfl | assumption | exact (show isTale _ from by assumption).1 | exact (show isCamp _ _ from by assumption).1 | exact (show isRow _ _ from by assumption).1) (by rfl) ?_
                    refine Gs_aload_n p193_135 rfl rfl ?_
                    refine Gs_iload p193_136 rfl rfl ?_
                    refine Gs_iload p193_138 rfl rfl ?_
                    refine Gs_callV2I p193_140 (by rfl) (by rfl) (by rfl) (Nat.le_of_ble_eq_true rfl) (by decide) (c_mgoes (hT.cong e96) hm0 (by rw [e96]; omega) hj hjn) (by omega) ?_
                    rw [eC]
                    refine Gs_dup2 p193_143 rfl rfl ?_
                    refine Gs_iald p193_144 (by first | rfl | assumption | exact (show isTale _ from by assumption).1 | exact (show isCamp _ _ from by assumption).1 | exact (show isRow _ _ from by assumption).1) (by omega) (by omega) (by omega) ?_
                    rw [of _ fb.1 (by omega)]
                    refine Gs_aload_n p193_145 rfl rfl ?_
                    refine Gs_getR p193_146 (by first | rfl | assumption | exact (show isTale _ from by assumption).1 | exact (show isCamp _ _ from by assumption).1 | exact (show isRow _ _ from by assumption).1) (by rfl) ?_
                    refine Gs_iload p193_149 rfl rfl ?_
                    refine Gs_iald p193_151 (by first | rfl | assumption | exact (show isTale _ from by assumption).1 | exact (show isCamp _ _ from by assumption).1 | exact (show isRow _ _ from by assumption).1) (by omega) (by omega) (by omega) ?_
                    rw [oe.2.2 _ hm0 (by omega)]
                    refine Gs_iadd p193_152 ?_
                    refine Gs_iast p193_153 (by first | rfl | assumption | exact (show isTale _ from by assumption).1 | exact (show isCamp _ _ from by assumption).1 | exact (show isRow _ _ from by assumption).1) (by omega) (by omega) (by omega) ?_
                    refine Gs_iinc6 (b56 := none) p193_154 (by first | rfl | assumption) ?_
                    refine Gs_goto (tgt := 125) p193_157 (by rfl) ?_
                    refine ihc _ ⟨fun a z a1 a2 => ?_, oe.2.1, fun x x0 x1 => ?_⟩ (fun x x0 x1 => ?_)
                    · rw [vA_sA, if_neg (fun e => a2 e.1)]; exact oe.1 a z a1 a2
                    · rw [vA_sA, if_neg (by omega)]; exact oe.2.2 x x0 x1
                    · rw [vA_sA, accW_s hm0 hj hjn]
                      by_cases e : x = cfM s m j
                      · rw [if_pos ⟨rfl, e⟩, if_pos e, e]
                      · rw [if_neg (fun q => e q.2), if_neg e]; exact of x x0 x1
                  · show ∀ y, WM s y (itW (cfM s) (vA s 96 0) (fun x => if x = l then 1 else 0) i.toNat) → (∀ x, 0 ≤ x → x < 9 → vA y 112 x = accW (cfM s) (itW (cfM s) (vA s 96 0) (fun x => if x = l then 1 else 0) i.toNat) (4 * m + (4)).toNat x) → Gs X d 193 125 [some (.ref 95), some (.int (iI k)), some (.int (iI l)), some (.int (iI v)), some (.int (iI i)), some (.int (iI m)), some (.int (iI (4)))] [] (y) _
                    intro y oe of
                    refine Gs_iload p193_125 rfl rfl ?_
                    refine Gs_iconst p193_127 ?_
                    refine Gs_icmp_ge (tgt := 160) p193_128 (by rfl) (by first | assumption | exact ⟨by omega, by omega⟩ | (split <;> exact ⟨by omega, by omega⟩)) (by first | assumption | exact ⟨by omega, by omega⟩ | (split <;> exact ⟨by omega, by omega⟩)) (fun hc128 => ?_) (fun hc128 => absurd ‹_› (by first | omega | assumption))
                    refine Gs_iinc5 (b55 := none) p193_160 (by first | rfl | assumption) ?_
                    refine Gs_goto (tgt := 111) p193_163 (by rfl) ?_
                    exact ihb _ _ oe (by rw [show 4 * (m + 1) = 4 * m + 4 by omega]; exact of)
                · show ∀ (y : St) (b6 : Option Value), WM s y (itW (cfM s) (vA s 96 0) (fun x => if x = l then 1 else 0) i.toNat) → (∀ x, 0 ≤ x → x < 9 → vA y 112 x = accW (cfM s) (itW (cfM s) (vA s 96 0) (fun x => if x = l then 1 else 0) i.toNat) (4 * ((vA s 96 0))).toNat x) → Gs X d 193 111 [some (.ref 95), some (.int (iI k)), some (.int (iI l)), some (.int (iI v)), some (.int (iI i)), some (.int (iI ((vA s 96 0)))), b6] [] (y) _
                  intro y b6 oc od
                  refine Gs_iload p193_111 rfl rfl ?_
                  refine Gs_aload_n p193_113 rfl rfl ?_
                  refine Gs_getR p193_114 (by first | rfl | assumption | exact (show isTale _ from by assumption).1 | exact (show isCamp _ _ from by assumption).1 | exact (show isRow _ _ from by assumption).1) (by rfl) ?_
                  refine Gs_iconst p193_117 ?_
                  refine Gs_iald p193_118 (by first | rfl | assumption | exact (show isTale _ from by assumption).1 | exact (show isCamp _ _ from by assumption).1 | exact (show isRow _ _ from by assumption).1) (by omega) (by omega) (by omega) ?_
                  rw [oc.1 96 0 (by decide) (by decide)]
                  refine Gs_icmp_ge (tgt := 166) p193_119 (by rfl) (by first | assumption | exact ⟨by omega, by omega⟩ | (split <;> exact ⟨by omega, by omega⟩)) (by first | assumption | exact ⟨by omega, by omega⟩ | (split <;> exact ⟨by omega, by omega⟩)) (fun hc119 => ?_) (fun hc119 => absurd ‹_› (by first | omega | assumption))
                  refine Gs_aload_n p193_166 rfl rfl ?_
                  refine Gs_getR p193_167 (by first | rfl | assumption | exact (show isTale _ from by assumption).1 | exact (show isCamp _ _ from by assumption).1 | exact (show isRow _ _ from by assumption).1) (by rfl) ?_
                  refine Gs_iconst p193_170 ?_
                  refine Gs_aload_n p193_171 rfl rfl ?_
                  refine Gs_getR p193_172 (by first | rfl | assumption | exact (show isTale _ from by assumption).1 | exact (show isCamp _ _ from by assumption).1 | exact (show isRow _ _ from by assumption).1) (by rfl) ?_
                  refine Gs_iconst p193_175 ?_
                  refine Gs_bipush p193_176 (by decide) ?_
                  refine Gs_callS5W p193_178 (by rfl) (Nat.le_of_ble_eq_true rfl) (by decide) (c_copies isA112 isA111 (by decide) (by omega) (by omega) (by omega) (by omega) (by omega) (by decide) (by decide)) (by omega) ?_
                  refine Gs_iinc4 (b54 := none) p193_181 (by first | rfl | assumption) ?_
                  refine Gs_goto (tgt := 78) p193_184 (by rfl) ?_
                  refine ih _ _ _ ⟨fun a z a1 a2 => ?_, oc.2.1, fun x x0 x1 => ?_⟩
                  · rw [cpS_A, if_neg (fun e => a1 e.1)]; exact oc.1 a z a1 a2
                  · rw [cpS_A, if_pos ⟨rfl, x0, by omega⟩, show x - 0 + 0 = x by omega, od x x0 x1, itW_s hi]; rfl
            · show ∀ (y : St) (b5 b6 : Option Value), WM s y (itW (cfM s) (vA s 96 0) (fun x => if x = l then 1 else 0) (v).toNat) → Gs X d 193 78 [some (.ref 95), some (.int (iI k)), some (.int (iI l)), some (.int (iI v)), some (.int (iI (v))), b5, b6] [] (y) _
              intro y b5 b6 o
              refine Gs_iload p193_78 rfl rfl ?_
              refine Gs_iload_n p193_80 rfl rfl ?_
              refine Gs_icmp_ge (tgt := 187) p193_81 (by rfl) (by first | assumption | exact ⟨by omega, by omega⟩ | (split <;> exact ⟨by omega, by omega⟩)) (by first | assumption | exact ⟨by omega, by omega⟩ | (split <;> exact ⟨by omega, by omega⟩)) (fun hc81 => ?_) (fun hc81 => absurd ‹_› (by first | omega | assumption))
              refine Gs_aload_n p193_187 rfl rfl ?_
              refine Gs_getR p193_188 (by first | rfl | assumption | exact (show isTale _ from by assumption).1 | exact (show isCamp _ _ from by assumption).1 | exact (show isRow _ _ from by assumption).1) (by rfl) ?_
              refine Gs_aload_n p193_191 rfl rfl ?_
              refine Gs_getR p193_192 (by first | rfl | assumption | exact (show isTale _ from by assumption).1 | exact (show isCamp _ _ from by assumption).1 | exact (show isRow _ _ from by assumption).1) (by rfl) ?_
              refine Gs_iconst p193_195 ?_
              refine Gs_iload_n p193_196 rfl rfl ?_
              refine Gs_iadd p193_197 ?_
              refine Gs_iald p193_198 (by first | rfl | assumption | exact (show isTale _ from by assumption).1 | exact (show isCamp _ _ from by assumption).1 | exact (show isRow _ _ from by assumption).1) (by omega) (by omega) (by omega) ?_
              rw [show vA y 98 (4 + k) = vA s 98 (4 + k) from o.1 98 (4 + k) (by decide) (by decide)]
              refine Gs_iald p193_199 (by first | rfl | assumption | exact (show isTale _ from by assumption).1 | exact (show isCamp _ _ from by assumption).1 | exact (show isRow _ _ from by assumption).1) (by omega) (by omega) (by omega) ?_
              refine Gs_iret p193_200 rfl ⟨_, rfl, ?_⟩
              exact ⟨o.2.2 _ (by omega) (by omega), o⟩
        · refine Gs_bipush p193_38 (by decide) ?_
          refine Gs_iret p193_40 rfl ⟨_, rfl, ?_⟩
          exfalso; omega
      · refine Gs_iconst p193_28 ?_
        refine Gs_iret p193_29 rfl ⟨_, rfl, ?_⟩
        exfalso; omega

set_option maxHeartbeats 1000000 in
set_option maxRecDepth 4000 in
theorem m_rows_no {X : vX} {s : St} {k l v : Int} (gk : rg k) (gl : rg l) (gv : rg v) (hT : MT s) (hm : MC s 98 (vA s 96 2)) (hno : ¬ (((0 ≤ k ∧ k < vA s 96 2) ∧ (0 ≤ l ∧ l < vA s 96 0) ∧ (0 ≤ v ∧ v ≤ 8)) ∧ 0 < vA s 98 k)) : OkI X 4 193 [.ref 95, .int (iI k), .int (iI l), .int (iI v)] s (Is1 (if ((0 ≤ k ∧ k < vA s 96 2) ∧ (0 ≤ l ∧ l < vA s 96 0) ∧ (0 ≤ v ∧ v ≤ 8)) then -2 else -1) s) := by
  refine Ok.of (r := vm_m193) (ls := [some (.ref 95), some (.int (iI k)), some (.int (iI l)), some (.int (iI v)), none, none, none]) rfl (Nat.le_of_ble_eq_true rfl) rfl (fun d hd => ?_)
  obtain ⟨a1, a2, a3, a4, a5, a6, a7, a8⟩ := id hT
  refine Gs_aload_n p193_0 rfl rfl ?_
  refine Gs_iload_n p193_1 rfl rfl ?_
  refine Gs_callV1I p193_2 (by rfl) (by rfl) (by first | rfl | assumption | exact (show isTale _ from by assumption).1 | exact (show isCamp _ _ from by assumption).1 | exact (show isRow _ _ from by assumption).1) (Nat.le_of_ble_eq_true rfl) (by decide) (c_misCompany hT gk) (by omega) ?_
  refine Gs_ifb_eq (tgt := 28) p193_5 (by rfl) (fun h5 => ?_) (fun h5 => ?_)
  · refine Gs_iconst p193_28 ?_
    refine Gs_iret p193_29 rfl ⟨_, rfl, ?_⟩
    refine ⟨?_, rfl⟩
    first | (rw [if_neg (by omega)]; done) | (rw [if_pos (by omega)]; done)
  · refine Gs_aload_n p193_8 rfl rfl ?_
    refine Gs_iload_n p193_9 rfl rfl ?_
    refine Gs_callV1I p193_10 (by rfl) (by rfl) (by first | rfl | assumption | exact (show isTale _ from by assumption).1 | exact (show isCamp _ _ from by assumption).1 | exact (show isRow _ _ from by assumption).1) (Nat.le_of_ble_eq_true rfl) (by decide) (c_misLine hT gl) (by omega) ?_
    refine Gs_ifb_eq (tgt := 28) p193_13 (by rfl) (fun h13 => ?_) (fun h13 => ?_)
    · refine Gs_iconst p193_28 ?_
      refine Gs_iret p193_29 rfl ⟨_, rfl, ?_⟩
      refine ⟨?_, rfl⟩
      first | (rw [if_neg (by omega)]; done) | (rw [if_pos (by omega)]; done)
    · refine Gs_iload_n p193_16 rfl rfl ?_
      refine Gs_i2l p193_17 (by first | assumption | exact ⟨by omega, by omega⟩ | (split <;> exact ⟨by omega, by omega⟩)) ?_
      refine Gs_lconst (z := 0) p193_18 (by decide) ?_
      refine Gs_ldc2 (z := (8)) p193_19 (by decide) ?_
      refine Gs_callS3I p193_22 (by rfl) (Nat.le_of_ble_eq_true rfl) (by decide) (c_in (rg_L gv) ⟨by omega, by omega⟩ ⟨by omega, by omega⟩) (by omega) ?_
      refine Gs_ifb_ne (tgt := 30) p193_25 (by rfl) (fun h25 => ?_) (fun h25 => ?_)
      · refine Gs_aload_n p193_30 rfl rfl ?_
        refine Gs_iload_n p193_31 rfl rfl ?_
        refine Gs_callV1I p193_32 (by rfl) (by rfl) (by first | rfl | assumption | exact (show isTale _ from by assumption).1 | exact (show isCamp _ _ from by assumption).1 | exact (show isRow _ _ from by assumption).1) (Nat.le_of_ble_eq_true rfl) (by decide) (c_misIn hm (by omega) (by omega)) (by omega) ?_
        refine Gs_ifb_ne (tgt := 41) p193_35 (by rfl) (fun h35 => ?_) (fun h35 => ?_)
        · exfalso; omega
        · refine Gs_bipush p193_38 (by decide) ?_
          refine Gs_iret p193_40 rfl ⟨_, rfl, ?_⟩
          refine ⟨?_, rfl⟩
          first | (rw [if_neg (by omega)]; done) | (rw [if_pos (by omega)]; done)
      · refine Gs_iconst p193_28 ?_
        refine Gs_iret p193_29 rfl ⟨_, rfl, ?_⟩
        refine ⟨?_, rfl⟩
        first | (rw [if_neg (by omega)]; done) | (rw [if_pos (by omega)]; done)

theorem T_rows {X : vX} {K : Int} {s : St} (hR : Rel K s) (hK : K < 512) {x1 x2 x3 : Int} (g1 : rg x1) (g2 : rg x2) (g3 : rg x3) : Both X K s 115 193 [.int (iI x1), .int (iI x2), .int (iI x3)] := by
  obtain ⟨h0, h1, h2, h3, h4, h5, h6⟩ := id hR
  have e0 := h3.2.2.1
  have hL : vF s 5 4 ≤ 9 := h3.1.2.1
  by_cases c : ((0 ≤ x1 ∧ x1 < vA s 96 2) ∧ (0 ≤ x2 ∧ x2 < vF s 5 4) ∧ (0 ≤ x3 ∧ x3 ≤ 8)) ∧ 1 ≤ cg s 14 x1 0
  · obtain ⟨⟨c1, c2, c3⟩, c4⟩ := c
    have lin := (h4.2.2.2.1 x1 c1.1 c1.2).2.2.2.2.2.2 c4
    obtain ⟨z, t, ⟨ez, o⟩, A⟩ := (k_rows (X := X) h3.1 (fun l w a b => h3.cf_line a b) h4.1 ⟨c1, c2, c3⟩ c4 ⟨lin.1, by omega⟩).ex
    have A' : ∀ a z, a ≠ 11 → a ≠ 13 → vA t a z = vA s a z := o.1
    have e96 : ∀ z, vA t 96 z = vA s 96 z := fun z => A' 96 z (by decide) (by decide)
    have e98 : ∀ z, vA t 98 z = vA s 98 z := fun z => A' 98 z (by decide) (by decide)
    have eC : ∀ l w, cfM t l w = cfM s l w := fun l w => by unfold cfM; rw [bhM_cong e96]
    have v0 := h4.v0 c1.1 c1.2 (w := 0) (by omega) (by omega)
    have v1 := h4.v0 c1.1 c1.2 (w := 1) (by omega) (by omega)
    rw [mi_0] at v0
    rw [mi_1] at v1
    obtain ⟨z', t', ⟨ez', o'⟩, B⟩ := (m_rows (X := X) (s := t) (k := x1) (l := x2) (v := x3) (hR.MT.cong e96) (by rw [e96]; exact h4.mc.cong e98) (fun l w a b d e => by rw [eC, e96]; exact h3.clM l w a (by rw [e96] at b; exact b) d e) (by rw [e96, e96, e0]; exact ⟨c1, c2, c3⟩) (by rw [e98]; omega) (by rw [e98]; omega)).ex
    refine Both.n hR A B (by decide) (by decide) ?_ ?_
    · rw [ez', ez, e98, ← v1, e96, e0]
      rw [itW_cong (C := cfM t) (C' := cfI s 5) (fun l w a b d e => by rw [eC]; exact h3.cf a b d e) (by omega)]
    · refine ⟨fun a ha z => ?_, fun a k ha => ?_⟩
      · rw [o'.1 a z (fun e => ha (by unfold scr; omega)) (fun e => ha (by unfold scr; omega)), A' a z (fun e => ha (by unfold scr; omega)) (fun e => ha (by unfold scr; omega))]
      · rw [o'.2.1, o.2.1 a k (fun e => ha.1 (by unfold scr; omega)) (fun e => ha.1 (by unfold scr; omega))]
  · refine Both.q hR (k_rows_no g1 g2 g3 h3.1 h4.1 c) (m_rows_no g1 g2 g3 hR.MT h4.mc (fun q => c ?_)) (by decide) (by decide) (by rw [e0]) ?_ (Kept.rfl' s)
    · rw [e0] at q
      refine ⟨q.1, ?_⟩
      rw [h4.v0 q.1.1.1 q.1.1.2 (by omega) (by omega), mi_0]
      omega
    · split <;> exact ⟨by omega, by omega⟩