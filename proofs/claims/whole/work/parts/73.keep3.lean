/-! stays, the class' call -/
theorem kp_cong {R : Int → Int} : ∀ (n : Nat) (lg lg' : Int → Int) (hot last h more : Int), (∀ x, 0 ≤ x → x < 4 → lg x = lg' x) → kp R n lg hot last h more = kp R n lg' hot last h more := by
  intro n
  induction n with
  | zero => intro _ _ _ _ _ _ _; rfl
  | succ n ih =>
    intro lg lg' hot last h more hl
    have f : ∀ w : Nat, w < 5 → kpF (kp R n) R lg hot last h more w = kpF (kp R n) R lg' hot last h more w := fun w hw => by
      unfold kpF
      by_cases w4 : w < 4
      · rw [if_pos w4, if_pos w4, hl w (by omega) (by omega), ih (up1 lg w (lg' w - 1)) (up1 lg' w (lg' w - 1)) _ _ _ _ (fun x a b => by rw [up1_at, up1_at]; split; rfl; exact hl x a b)]
      · rw [if_neg w4, if_neg w4, ih lg lg' _ _ _ _ hl]
    have g : ∀ (k w : Nat), w + k = 5 → fstN (kpF (kp R n) R lg hot last h more) k w = fstN (kpF (kp R n) R lg' hot last h more) k w := by
      intro k
      induction k with
      | zero => intro w _; rfl
      | succ k ih2 => intro w e; rw [fstN_s, fstN_s, f w (by omega), ih2 (w + 1) (by omega)]
    unfold kp
    rw [g 5 0 rfl]
theorem kpA_cong {R : Int → Int} {n : Nat} {lg lg' : Int → Int} {hot last : Int} (hl : ∀ x, 0 ≤ x → x < 4 → lg x = lg' x) (f m : Nat) : kpA R n lg hot last f m = kpA R n lg' hot last f m := by
  induction f generalizing m with
  | zero => rfl
  | succ f ih => rw [kpA_s, kpA_s, kp_cong n lg lg' _ _ _ _ hl, ih]
def ansK (o : Option (Nat × (Nat → Int))) (n k : Int) : Int := match o with
  | none => -4
  | some (m, p) => if k = -1 then (m : Int) else if k < n then p k.toNat else -4
def HFr (s t : St) : Prop := (∀ a z, a < 69 ∨ 74 ≤ a → vA t a z = vA s a z) ∧ (∀ a k, a < 69 ∨ 74 ≤ a → vF t a k = vF s a k)
theorem HFr.rfl' (s : St) : HFr s s := ⟨fun _ _ _ => rfl, fun _ _ _ => rfl⟩
theorem HFr.trans {s t u : St} (h : HFr s t) (g : HFr t u) : HFr s u := ⟨fun a z e => (g.1 a z e).trans (h.1 a z e), fun a k e => (g.2 a k e).trans (h.2 a k e)⟩
def PKp (s : St) (n : Int) (o : Option (Nat × (Nat → Int))) (z : Int) (t : St) : Prop := HFr s t ∧ match o with
  | none => z = -4
  | some (m, p) => z = m ∧ (m : Int) ≤ n ∧ vF t 69 4 = n ∧ vF t 72 1 = 6 ∧ ∀ i : Nat, (i : Int) < n → vA t 73 i = p i
theorem PKp.b {s t : St} {n : Int} {o : Option (Nat × (Nat → Int))} {z : Int} (h : PKp s n o z t) (hn : n ≤ 6) : -4 ≤ z ∧ z ≤ 6 := by
  have h2 := h.2
  split at h2
  · omega
  · omega
theorem PKp.is {s t : St} {n : Int} {o : Option (Nat × (Nat → Int))} {z : Int} (h : PKp s n o z t) : z = -4 ↔ o.isSome = false := by
  have h2 := h.2
  split at h2
  · exact ⟨fun _ => rfl, fun _ => h2⟩
  · exact ⟨fun e => by omega, fun e => by cases e⟩
theorem PKp.a1 {s t : St} {n : Int} {o : Option (Nat × (Nat → Int))} {z k : Int} (h : PKp s n o z t) (hk : k = -1 ∨ z = -4) : ansK o n k = z := by
  have h2 := h.2
  unfold ansK
  split at h2
  · exact h2.symm
  · show (if k = -1 then _ else _) = _
    rw [if_pos (by omega)]; exact h2.1.symm
theorem PKp.a2 {s t : St} {n : Int} {o : Option (Nat × (Nat → Int))} {z k : Int} (h : PKp s n o z t) (hk : 0 ≤ k) (hz : ¬ z = -4) : vF t 69 4 = n ∧ vF t 72 1 = 6 ∧ ansK o n k = if k < vF t 69 4 then vA t 73 k else -4 := by
  have h2 := h.2
  unfold ansK
  split at h2
  · exact absurd h2 hz
  · obtain ⟨q1, q2, q3, q4, q5⟩ := h2
    refine ⟨q3, q4, ?_⟩
    rw [q3]
    show (if k = -1 then _ else _) = _
    rw [if_neg (by omega)]
    split
    · have := q5 k.toNat (by omega)
      rw [show ((k.toNat : Nat) : Int) = k by omega] at this
      exact this.symm
    · rfl
def KTB (s y : St) (st n : Int) (lg : Int → Int) : Prop := (∀ a z, a ≠ 71 → a ≠ 73 → vA y a z = vA s a z) ∧ (∀ a k, ¬ (a = 69 ∧ (k = 3 ∨ k = 4)) → ¬ (a = 70 ∧ k = 1) → ¬ (a = 72 ∧ k = 1) → vF y a k = vF s a k) ∧ vF y 69 3 = st ∧ vF y 69 4 = n ∧ vF y 70 1 = 4 ∧ vF y 72 1 = 6 ∧ (∀ x, 0 ≤ x → x < 4 → vA y 71 x = lg x)
theorem KTB.po {s y t : St} {st n place : Int} {lg : Int → Int} (h : KTB s y st n lg) (g : KPo y t place) : KTB s t st n lg :=
  ⟨fun a z x1 x2 => (g.1 a z x2).trans (h.1 a z x1 x2), fun a k x1 x2 x3 => (g.2.2 a k).trans (h.2.1 a k x1 x2 x3), (g.2.2 _ _).trans h.2.2.1, (g.2.2 _ _).trans h.2.2.2.1, (g.2.2 _ _).trans h.2.2.2.2.1, (g.2.2 _ _).trans h.2.2.2.2.2.1, fun x x0 x1 => (g.1 71 x (by decide)).trans (h.2.2.2.2.2.2 x x0 x1)⟩
theorem KTB.fr {s y : St} {st n : Int} {lg : Int → Int} (h : KTB s y st n lg) : HFr s y := ⟨fun a z x => h.1 a z (by omega) (by omega), fun a k x => h.2.1 a k (by omega) (by omega) (by omega)⟩
theorem KTB.pre {s y : St} {st n : Int} {lg : Int → Int} (h : KTB s y st n lg) (hT : TaleOk s 5) (hst : 0 ≤ st ∧ st ≤ 100000) (n0 : 0 ≤ n) (n6 : n ≤ 6) (hg : ∀ x, 0 ≤ x → x < 4 → 0 ≤ lg x ∧ lg x ≤ 200) : KPre y (fun x => rnI s 5 (st + x)) 0 n.toNat lg := by
  obtain ⟨b1, b2, b3, b4, b5, b6, b7⟩ := h
  exact ⟨hT.cong (b2 _ _ (by decide) (by decide) (by decide)) (b2 _ _ (by decide) (by decide) (by decide)) (b2 _ _ (by decide) (by decide) (by decide)) (fun z => b1 _ z (by decide) (by decide)) (fun z => b1 _ z (by decide) (by decide)), fun x _ => by rw [b3]; exact rnI_cong (b2 _ _ (by decide) (by decide) (by decide)) (fun z => b1 _ z (by decide) (by decide)) _, by omega, by omega, by omega, b5, b6, fun x x0 x1 => ⟨b7 x x0 x1, hg x x0 x1⟩, by omega, by omega⟩
set_option maxHeartbeats 4000000 in
set_option maxRecDepth 4000 in
theorem c_kfewest {X : vX} {s : St} {c n nn : Int} {cc : Nat} (hcc : isCamp cc 5) (hc69 : cc + 3 < 69) (hT : TaleOk s 5) (hC : CampOk s cc nn) (c0 : 0 ≤ c) (c1 : c < nn) (n1 : 1 ≤ n) (n6 : n ≤ 6) : OkI X 30 34 [.ref 69, .ref cc, .int (iI c), .int (iI n)] s (PKp s n (kpA (fun x => rnI s 5 (vF s cc 2 + x)) n.toNat (fun x => cg s cc c (2 + x)) (cg s cc c 0) (cg s cc c 6) (n.toNat + 1) 0)) := by
  refine Ok.of (r := vm_m34) (ls := [some (.ref 69), some (.ref cc), some (.int (iI c)), some (.int (iI n)), none]) rfl (Nat.le_of_ble_eq_true rfl) rfl (fun d hd => ?_)
  have hy := hcc.1
  obtain ⟨k1, k2, k3, k4, k5, k6⟩ := id hC
  have hh0 := hC.b c0 c1 (w := 0) (by omega) (by omega)
  have hh6 := hC.r c0 c1 (w := 6) (by omega) (by omega)
  have lA := lwA
  have hg : ∀ x, 0 ≤ x → x < 4 → 0 ≤ cg s cc c (2 + x) ∧ cg s cc c (2 + x) ≤ 200 := fun x x0 x1 => by
    have := hC.b c0 c1 (w := 2 + x) (by omega) (by omega)
    have := lw2 x0 x1
    omega
  generalize hR : kpA (fun x => rnI s 5 (vF s cc 2 + x)) n.toNat (fun x => cg s cc c (2 + x)) (cg s cc c 0) (cg s cc c 6) (n.toNat + 1) 0 = R
  refine Gs_aload_n p34_0 rfl rfl ?_
  refine Gs_aload_n p34_1 rfl rfl ?_
  refine Gs_callV0I p34_2 (by rfl) (by rfl) hy (Nat.le_of_ble_eq_true rfl) (by decide) (c_hours hcc hC) (by omega) ?_
  refine Gs_putI p34_5 (by first | rfl | assumption | exact (show isTale _ from by assumption).1 | exact (show isCamp _ _ from by assumption).1 | exact (show isRow _ _ from by assumption).1) (by rfl) (by rfl) (by rfl) ?_
  refine Gs_aload_n p34_8 rfl rfl ?_
  refine Gs_bipush p34_9 (by decide) ?_
  refine Gs_iload_n p34_11 rfl rfl ?_
  refine Gs_callS2I p34_12 (by rfl) (Nat.le_of_ble_eq_true rfl) (by decide) (c_min ⟨by omega, by omega⟩ ⟨by omega, by omega⟩) (by omega) ?_
  refine Gs_top n (by rw [mn_if]; split <;> omega) ?_
  refine Gs_putI p34_15 (by first | rfl | assumption | exact (show isTale _ from by assumption).1 | exact (show isCamp _ _ from by assumption).1 | exact (show isRow _ _ from by assumption).1) (by rfl) (by rfl) (by rfl) ?_
  refine Gs_aload_n p34_18 rfl rfl ?_
  refine Gs_getR p34_19 (by first | rfl | assumption | exact (show isTale _ from by assumption).1 | exact (show isCamp _ _ from by assumption).1 | exact (show isRow _ _ from by assumption).1) (by rfl) ?_
  refine Gs_callV0W p34_22 (by rfl) (by rfl) (by rfl) (Nat.le_of_ble_eq_true rfl) (by decide) (c_clear row70) (by omega) ?_
  refine Gs_iconst p34_25 ?_
  refine Gs_ist4 p34_26 (by first | rfl | assumption) ?_
  refine dn (n := (4 : Int)) (P := fun j => ∀ y, (∀ a z, a ≠ 71 → vA y a z = vA s a z) → (∀ a k, ¬ (a = 69 ∧ (k = 3 ∨ k = 4)) → ¬ (a = 70 ∧ k = 1) → vF y a k = vF s a k) → vF y 69 3 = vF s cc 2 → vF y 69 4 = n → vF y 70 1 = j → (∀ x, 0 ≤ x → x < j → vA y 71 x = cg s cc c (2 + x)) → Gs X d 34 28 [some (.ref 69), some (.ref cc), some (.int (iI c)), some (.int (iI n)), some (.int (iI j))] [] (y) (fun vv yy => ∃ zz : Int, vv = some (.int (iI zz)) ∧ (PKp s n R) zz yy)) (by omega) (fun j hj hjn ihl => ?_) ?_ _ (fun _ _ _ => rfl) (fun a k x1 x2 => by rw [vF_sF, if_neg x2, vF_sF, if_neg (by omega), vF_sF, if_neg (by omega)]) rfl rfl rfl (fun x x0 x1 => absurd x1 (by omega))
  · show ∀ y, (∀ a z, a ≠ 71 → vA y a z = vA s a z) → (∀ a k, ¬ (a = 69 ∧ (k = 3 ∨ k = 4)) → ¬ (a = 70 ∧ k = 1) → vF y a k = vF s a k) → vF y 69 3 = vF s cc 2 → vF y 69 4 = n → vF y 70 1 = j → (∀ x, 0 ≤ x → x < j → vA y 71 x = cg s cc c (2 + x)) → Gs X d 34 28 [some (.ref 69), some (.ref cc), some (.int (iI c)), some (.int (iI n)), some (.int (iI j))] [] (y) _
    intro y ya yf y3 y4 y1 yl
    have fC : CampOk y cc nn := hC.cong (yf _ _ (by omega) (by omega)) (yf _ _ (by omega) (by omega)) (fun z => ya _ z (by omega))
    refine Gs_iload p34_28 rfl rfl ?_
    refine Gs_iconst p34_30 ?_
    refine Gs_icmp_ge (tgt := 56) p34_31 (by rfl) (by first | assumption | exact ⟨by omega, by omega⟩ | (split <;> exact ⟨by omega, by omega⟩)) (by first | assumption | exact ⟨by omega, by omega⟩ | (split <;> exact ⟨by omega, by omega⟩)) (fun hc31 => absurd ‹_› (by first | omega | assumption)) (fun hc31 => ?_)
    refine Gs_aload_n p34_34 rfl rfl ?_
    refine Gs_getR p34_35 (by first | rfl | assumption | exact (show isTale _ from by assumption).1 | exact (show isCamp _ _ from by assumption).1 | exact (show isRow _ _ from by assumption).1) (by rfl) ?_
    refine Gs_aload_n p34_38 rfl rfl ?_
    refine Gs_iload_n p34_39 rfl rfl ?_
    refine Gs_iconst p34_40 ?_
    refine Gs_iload p34_41 rfl rfl ?_
    refine Gs_iadd p34_43 ?_
    refine Gs_callV2I p34_44 (by rfl) (by rfl) hy (Nat.le_of_ble_eq_true rfl) (by decide) (c_Cget hcc fC c0 c1 (by omega) (by omega)) (by omega) ?_
    rw [show cg y cc c (2 + j) = cg s cc c (2 + j) from ya (cc + 2) _ (by omega)]
    refine Gs_callV1W p34_47 (by rfl) (by rfl) (by rfl) (Nat.le_of_ble_eq_true rfl) (by decide) (c_aadd (a := 71) row70 rfl (by omega) (by omega)) (by omega) ?_
    refine Gs_iinc4 (b54 := none) p34_50 (by first | rfl | assumption) ?_
    refine Gs_goto (tgt := 28) p34_53 (by rfl) ?_
    refine ihl _ (fun a z x1 => by rw [vA_sF, vA_sA, if_neg (fun r => x1 r.1)]; exact ya a z x1) (fun a k x1 x2 => by rw [vF_sF, if_neg x2]; exact yf a k x1 x2) (by rw [vF_sF, if_neg (by omega)]; exact y3) (by rw [vF_sF, if_neg (by omega)]; exact y4) (by rw [vF_sF, if_pos ⟨rfl, rfl⟩, y1]) (fun x x0 x1 => ?_)
    rw [vA_sF, vA_sA, y1]
    by_cases ex : x = j
    · rw [if_pos ⟨rfl, ex⟩, ex]
    · rw [if_neg (fun r => ex r.2)]; exact yl x x0 (by omega)
  · show ∀ y, (∀ a z, a ≠ 71 → vA y a z = vA s a z) → (∀ a k, ¬ (a = 69 ∧ (k = 3 ∨ k = 4)) → ¬ (a = 70 ∧ k = 1) → vF y a k = vF s a k) → vF y 69 3 = vF s cc 2 → vF y 69 4 = n → vF y 70 1 = ((4 : Int)) → (∀ x, 0 ≤ x → x < ((4 : Int)) → vA y 71 x = cg s cc c (2 + x)) → Gs X d 34 28 [some (.ref 69), some (.ref cc), some (.int (iI c)), some (.int (iI n)), some (.int (iI ((4 : Int))))] [] (y) _
    intro y ya yf y3 y4 y1 yl
    have ob : KTB s (cF (sF y 72 1 6) 73 6 (-4)) (vF s cc 2) n (fun x => cg s cc c (2 + x)) := by
      refine ⟨fun a z x1 x2 => ?_, fun a k x1 x2 x3 => ?_, ?_, ?_, ?_, rfl, fun x x0 x1 => ?_⟩
      · rw [cF_A, if_neg (fun r => x2 r.1)]; exact ya a z x1
      · rw [cF_F, vF_sF, if_neg x3]; exact yf a k x1 x2
      · rw [cF_F, vF_sF, if_neg (by omega)]; exact y3
      · rw [cF_F, vF_sF, if_neg (by omega)]; exact y4
      · rw [cF_F, vF_sF, if_neg (by omega)]; exact y1
      · rw [cF_A, if_neg (by omega)]; exact yl x x0 x1
    refine Gs_iload p34_28 rfl rfl ?_
    refine Gs_iconst p34_30 ?_
    refine Gs_icmp_ge (tgt := 56) p34_31 (by rfl) (by first | assumption | exact ⟨by omega, by omega⟩ | (split <;> exact ⟨by omega, by omega⟩)) (by first | assumption | exact ⟨by omega, by omega⟩ | (split <;> exact ⟨by omega, by omega⟩)) (fun hc31 => ?_) (fun hc31 => absurd ‹_› (by first | omega | assumption))
    refine Gs_aload_n p34_56 rfl rfl ?_
    refine Gs_getR p34_57 (by first | rfl | assumption | exact (show isTale _ from by assumption).1 | exact (show isCamp _ _ from by assumption).1 | exact (show isRow _ _ from by assumption).1) (by rfl) ?_
    refine Gs_bipush p34_60 (by decide) ?_
    refine Gs_callV1W p34_62 (by rfl) (by rfl) (by rfl) (Nat.le_of_ble_eq_true rfl) (by decide) (c_afill (a := 73) row72 rfl) (by omega) ?_
    refine Gs_iconst p34_65 ?_
    refine Gs_ist4 p34_66 (by first | rfl | assumption) ?_
    refine dn (n := (n + 1)) (P := fun i => ∀ y, KTB s y (vF s cc 2) n (fun x => cg s cc c (2 + x)) → kpA (fun x => rnI s 5 (vF s cc 2 + x)) n.toNat (fun x => cg s cc c (2 + x)) (cg s cc c 0) (cg s cc c 6) (n + 1 - i).toNat i.toNat = R → Gs X d 34 68 [some (.ref 69), some (.ref cc), some (.int (iI c)), some (.int (iI n)), some (.int (iI i))] [] (y) (fun vv yy => ∃ zz : Int, vv = some (.int (iI zz)) ∧ (PKp s n R) zz yy)) (by omega) (fun i hi hin ih => ?_) ?_ _ ob (by rw [show (n + 1 - 0).toNat = n.toNat + 1 by omega]; exact hR)
    · show ∀ y, KTB s y (vF s cc 2) n (fun x => cg s cc c (2 + x)) → kpA (fun x => rnI s 5 (vF s cc 2 + x)) n.toNat (fun x => cg s cc c (2 + x)) (cg s cc c 0) (cg s cc c 6) (n + 1 - i).toNat i.toNat = R → Gs X d 34 68 [some (.ref 69), some (.ref cc), some (.int (iI c)), some (.int (iI n)), some (.int (iI i))] [] (y) _
      intro y o e
      rw [show (n + 1 - i).toNat = (n + 1 - (i + 1)).toNat + 1 by omega, kpA_s, show i.toNat + 1 = (i + 1).toNat by omega, show ((i.toNat : Nat) : Int) = i by omega] at e
      have fC : CampOk y cc nn := hC.cong (o.2.1 _ _ (by omega) (by omega) (by omega)) (o.2.1 _ _ (by omega) (by omega) (by omega)) (fun z => o.1 _ z (by omega) (by omega))
      have fg : ∀ w, cg y cc c w = cg s cc c w := fun w => o.1 (cc + 2) _ (by omega) (by omega)
      have B := c_isKept (X := X) n.toNat _ 0 (cg s cc c 0) (cg s cc c 6) i (fun x => cg s cc c (2 + x)) (o.pre hT ⟨k4, k5⟩ (by omega) n6 hg) (by omega) (by omega) ⟨by omega, by omega⟩ hi (by omega)
      have y4 := o.2.2.2.1
      refine Gs_iload p34_68 rfl rfl ?_
      refine Gs_aload_n p34_70 rfl rfl ?_
      refine Gs_getI p34_71 (by first | rfl | assumption | exact (show isTale _ from by assumption).1 | exact (show isCamp _ _ from by assumption).1 | exact (show isRow _ _ from by assumption).1) (by rfl) ?_
      refine Gs_icmp_gt (tgt := 109) p34_74 (by rfl) (by first | assumption | exact ⟨by omega, by omega⟩ | (split <;> exact ⟨by omega, by omega⟩)) (by first | assumption | exact ⟨by omega, by omega⟩ | (split <;> exact ⟨by omega, by omega⟩)) (fun hc74 => absurd ‹_› (by first | omega | assumption)) (fun hc74 => ?_)
      refine Gs_aload_n p34_77 rfl rfl ?_
      refine Gs_iconst p34_78 ?_
      refine Gs_aload_n p34_79 rfl rfl ?_
      refine Gs_iload_n p34_80 rfl rfl ?_
      refine Gs_iconst p34_81 ?_
      refine Gs_callV2I p34_82 (by rfl) (by rfl) hy (Nat.le_of_ble_eq_true rfl) (by decide) (c_Cget hcc fC c0 c1 (by omega) (by omega)) (by omega) ?_
      rw [fg]
      refine Gs_aload_n p34_85 rfl rfl ?_
      refine Gs_iload_n p34_86 rfl rfl ?_
      refine Gs_bipush p34_87 (by decide) ?_
      refine Gs_callV2I p34_89 (by rfl) (by rfl) hy (Nat.le_of_ble_eq_true rfl) (by decide) (c_Cget hcc fC c0 c1 (by omega) (by omega)) (by omega) ?_
      rw [fg]
      refine Gs_iload p34_92 rfl rfl ?_
      refine Gs_callV4i p34_94 (by rfl) (by rfl) (by rfl) (Nat.le_of_ble_eq_true rfl) (by decide) (B) (by omega) (fun z94 s94 h94 => ?_)
      rw [h94.1]
      refine Gs_ifb_eq (tgt := 103) p34_97 (by rfl) (fun h97 => ?_) (fun h97 => ?_)
      · refine Gs_iinc4 (b54 := none) p34_103 (by first | rfl | assumption) ?_
        refine Gs_goto (tgt := 68) p34_106 (by rfl) ?_
        cases eo : kp (fun x => rnI s 5 (vF s cc 2 + x)) n.toNat (fun x => cg s cc c (2 + x)) (cg s cc c 0) (cg s cc c 6) 0 i with
        | none => rw [eo] at e; exact ih _ (o.po h94.2.1) e
        | some q => rw [eo] at h97; exact absurd rfl h97
      · refine Gs_iload p34_100 rfl rfl ?_
        refine Gs_iret p34_102 rfl ⟨_, rfl, ?_⟩
        cases eo : kp (fun x => rnI s 5 (vF s cc 2 + x)) n.toNat (fun x => cg s cc c (2 + x)) (cg s cc c 0) (cg s cc c 6) 0 i with
        | none => rw [eo] at h97; exact absurd h97 (by decide)
        | some q =>
          rw [eo] at e
          have e : some (i.toNat, q) = R := e
          subst e
          have ot := o.po h94.2.1
          refine ⟨ot.fr, by omega, by omega, ot.2.2.2.1, ot.2.2.2.2.2.1, fun j hj => ?_⟩
          have := h94.2.2 q eo j (by omega)
          rw [Int.zero_add] at this
          exact this
    · show ∀ y, KTB s y (vF s cc 2) n (fun x => cg s cc c (2 + x)) → kpA (fun x => rnI s 5 (vF s cc 2 + x)) n.toNat (fun x => cg s cc c (2 + x)) (cg s cc c 0) (cg s cc c 6) (n + 1 - ((n + 1))).toNat ((n + 1)).toNat = R → Gs X d 34 68 [some (.ref 69), some (.ref cc), some (.int (iI c)), some (.int (iI n)), some (.int (iI ((n + 1))))] [] (y) _
      intro y o e
      have y4 := o.2.2.2.1
      refine Gs_iload p34_68 rfl rfl ?_
      refine Gs_aload_n p34_70 rfl rfl ?_
      refine Gs_getI p34_71 (by first | rfl | assumption | exact (show isTale _ from by assumption).1 | exact (show isCamp _ _ from by assumption).1 | exact (show isRow _ _ from by assumption).1) (by rfl) ?_
      refine Gs_icmp_gt (tgt := 109) p34_74 (by rfl) (by first | assumption | exact ⟨by omega, by omega⟩ | (split <;> exact ⟨by omega, by omega⟩)) (by first | assumption | exact ⟨by omega, by omega⟩ | (split <;> exact ⟨by omega, by omega⟩)) (fun hc74 => ?_) (fun hc74 => absurd ‹_› (by first | omega | assumption))
      refine Gs_bipush p34_109 (by decide) ?_
      refine Gs_iret p34_111 rfl ⟨_, rfl, ?_⟩
      rw [show (n + 1 - (n + 1)).toNat = 0 by omega] at e
      have e : none = R := e
      subst e
      exact ⟨o.fr, rfl⟩

set_option maxHeartbeats 1000000 in
set_option maxRecDepth 4000 in
theorem c_woodAhead {X : vX} {s : St} {k n : Int} (gk : rg k) (k0 : 0 ≤ k) (n0 : 0 ≤ n) (n6 : n ≤ 6) (b0 : vF s 69 4 = n) (b2 : vF s 72 1 = 6) : OkI X 1 35 [.ref 69, .int (iI k)] s (Is1 (if k < vF s 69 4 then vA s 73 k else -4) s) := by
  refine Ok.of (r := vm_m35) (ls := [some (.ref 69), some (.int (iI k))]) rfl (Nat.le_of_ble_eq_true rfl) rfl (fun d hd => ?_)
  refine Gs_iload_n p35_0 rfl rfl ?_
  refine Gs_aload_n p35_1 rfl rfl ?_
  refine Gs_getI p35_2 (by first | rfl | assumption | exact (show isTale _ from by assumption).1 | exact (show isCamp _ _ from by assumption).1 | exact (show isRow _ _ from by assumption).1) (by rfl) ?_
  refine Gs_icmp_ge (tgt := 19) p35_5 (by rfl) (by first | assumption | exact ⟨by omega, by omega⟩ | (split <;> exact ⟨by omega, by omega⟩)) (by first | assumption | exact ⟨by omega, by omega⟩ | (split <;> exact ⟨by omega, by omega⟩)) (fun h5 => ?_) (fun h5 => ?_)
  · refine Gs_bipush p35_19 (by decide) ?_
    refine Gs_iret p35_21 rfl ⟨_, rfl, ?_⟩
    first
      | (rw [if_pos (by omega)]; exact ⟨rfl, rfl⟩)
      | (rw [if_neg (by omega)]; exact ⟨rfl, rfl⟩)
  · refine Gs_aload_n p35_8 rfl rfl ?_
    refine Gs_getR p35_9 (by first | rfl | assumption | exact (show isTale _ from by assumption).1 | exact (show isCamp _ _ from by assumption).1 | exact (show isRow _ _ from by assumption).1) (by rfl) ?_
    refine Gs_iload_n p35_12 rfl rfl ?_
    refine Gs_callV1I p35_13 (by rfl) (by rfl) (by rfl) (Nat.le_of_ble_eq_true rfl) (by decide) (c_agot (a := 73) row72 rfl ⟨by omega, by omega⟩ (by omega) (by omega) (by omega) (by omega)) (by omega) ?_
    refine Gs_goto (tgt := 21) p35_16 (by rfl) ?_
    refine Gs_iret p35_21 rfl ⟨_, rfl, ?_⟩
    first
      | (rw [if_pos (by omega)]; exact ⟨rfl, rfl⟩)
      | (rw [if_neg (by omega)]; exact ⟨rfl, rfl⟩)

set_option maxHeartbeats 1000000 in
set_option maxRecDepth 4000 in
theorem k_stays {X : vX} {s : St} {c n k nn : Int} (hT : TaleOk s 5) (hC : CampOk s 14 nn) (c0 : 0 ≤ c) (c1 : c < nn) (n1 : 1 ≤ n) (n6 : n ≤ 6) (gk : rg k) (hk : -1 ≤ k) (c2 : 1 ≤ cg s 14 c 0) : OkI X 31 107 [.ref 0, .int (iI c), .int (iI n), .int (iI k)] s (fun z t => z = ansK (kpA (fun x => rnI s 5 (vF s 14 2 + x)) n.toNat (fun x => cg s 14 c (2 + x)) (cg s 14 c 0) (cg s 14 c 6) (n.toNat + 1) 0) n k ∧ HFr s t) := by
  refine Ok.of (r := vm_m107) (ls := [some (.ref 0), some (.int (iI c)), some (.int (iI n)), some (.int (iI k)), none]) rfl (Nat.le_of_ble_eq_true rfl) rfl (fun d hd => ?_)
  have n4 := hC.2.1
  refine Gs_aload_n p107_0 rfl rfl ?_
  refine Gs_getR p107_1 (by first | rfl | assumption | exact (show isTale _ from by assumption).1 | exact (show isCamp _ _ from by assumption).1 | exact (show isRow _ _ from by assumption).1) (by rfl) ?_
  refine Gs_iload_n p107_4 rfl rfl ?_
  refine Gs_callV1I p107_5 (by rfl) (by rfl) (by first | rfl | assumption | exact (show isTale _ from by assumption).1 | exact (show isCamp _ _ from by assumption).1 | exact (show isRow _ _ from by assumption).1) (Nat.le_of_ble_eq_true rfl) (by decide) (c_isCompany camp14 hC ⟨by omega, by omega⟩) (by omega) ?_
  refine Gs_ifb_eq (tgt := 26) p107_8 (by rfl) (fun h8 => ?_) (fun h8 => ?_)
  · refine Gs_iconst p107_26 ?_
    refine Gs_iret p107_27 rfl ⟨_, rfl, ?_⟩
    exfalso; omega
  · refine Gs_iload_n p107_11 rfl rfl ?_
    refine Gs_iconst p107_12 ?_
    refine Gs_bipush p107_13 (by decide) ?_
    refine Gs_callS3I p107_15 (by rfl) (Nat.le_of_ble_eq_true rfl) (by decide) (c_within ⟨by omega, by omega⟩ ⟨by omega, by omega⟩ ⟨by omega, by omega⟩) (by omega) ?_
    refine Gs_ifb_eq (tgt := 26) p107_18 (by rfl) (fun h18 => ?_) (fun h18 => ?_)
    · refine Gs_iconst p107_26 ?_
      refine Gs_iret p107_27 rfl ⟨_, rfl, ?_⟩
      exfalso; omega
    · refine Gs_iload_n p107_21 rfl rfl ?_
      refine Gs_iconst p107_22 ?_
      refine Gs_icmp_ge (tgt := 28) p107_23 (by rfl) (by first | assumption | exact ⟨by omega, by omega⟩ | (split <;> exact ⟨by omega, by omega⟩)) (by first | assumption | exact ⟨by omega, by omega⟩ | (split <;> exact ⟨by omega, by omega⟩)) (fun h23 => ?_) (fun h23 => ?_)
      · refine Gs_aload_n p107_28 rfl rfl ?_
        refine Gs_getR p107_29 (by first | rfl | assumption | exact (show isTale _ from by assumption).1 | exact (show isCamp _ _ from by assumption).1 | exact (show isRow _ _ from by assumption).1) (by rfl) ?_
        refine Gs_iload_n p107_32 rfl rfl ?_
        refine Gs_callV1I p107_33 (by rfl) (by rfl) (by first | rfl | assumption | exact (show isTale _ from by assumption).1 | exact (show isCamp _ _ from by assumption).1 | exact (show isRow _ _ from by assumption).1) (Nat.le_of_ble_eq_true rfl) (by decide) (c_isIn camp14 hC c0 c1) (by omega) ?_
        refine Gs_ifb_ne (tgt := 42) p107_36 (by rfl) (fun h36 => ?_) (fun h36 => ?_)
        · refine Gs_aload_n p107_42 rfl rfl ?_
          refine Gs_getR p107_43 (by first | rfl | assumption | exact (show isTale _ from by assumption).1 | exact (show isCamp _ _ from by assumption).1 | exact (show isRow _ _ from by assumption).1) (by rfl) ?_
          refine Gs_aload_n p107_46 rfl rfl ?_
          refine Gs_getR p107_47 (by first | rfl | assumption | exact (show isTale _ from by assumption).1 | exact (show isCamp _ _ from by assumption).1 | exact (show isRow _ _ from by assumption).1) (by rfl) ?_
          refine Gs_iload_n p107_50 rfl rfl ?_
          refine Gs_iload_n p107_51 rfl rfl ?_
          refine Gs_callV3i p107_52 (by rfl) (by rfl) (by rfl) (Nat.le_of_ble_eq_true rfl) (by decide) (c_kfewest camp14 (by decide) hT hC c0 c1 n1 n6) (by omega) (fun z52 s52 h52 => ?_)
          have bz := h52.b n6
          refine Gs_ist4 p107_55 (by first | rfl | assumption) ?_
          refine Gs_iload_n p107_57 rfl rfl ?_
          refine Gs_iconst p107_58 ?_
          refine Gs_icmp_eq (tgt := 69) p107_59 (by rfl) (by first | assumption | exact ⟨by omega, by omega⟩ | (split <;> exact ⟨by omega, by omega⟩)) (by first | assumption | exact ⟨by omega, by omega⟩ | (split <;> exact ⟨by omega, by omega⟩)) (fun h59 => ?_) (fun h59 => ?_)
          · refine Gs_iload p107_69 rfl rfl ?_
            refine Gs_goto (tgt := 82) p107_71 (by rfl) ?_
            refine Gs_iret p107_82 rfl ⟨_, rfl, ?_⟩
            first
              | exact ⟨(h52.a1 (by omega)).symm, h52.1⟩
              | exact ⟨(h52.a2 (show 0 ≤ k by omega) (by omega)).2.2.symm, h52.1⟩
          · refine Gs_iload p107_62 rfl rfl ?_
            refine Gs_bipush p107_64 (by decide) ?_
            refine Gs_icmp_ne (tgt := 74) p107_66 (by rfl) (by first | assumption | exact ⟨by omega, by omega⟩ | (split <;> exact ⟨by omega, by omega⟩)) (by first | assumption | exact ⟨by omega, by omega⟩ | (split <;> exact ⟨by omega, by omega⟩)) (fun h66 => ?_) (fun h66 => ?_)
            · refine Gs_aload_n p107_74 rfl rfl ?_
              refine Gs_getR p107_75 (by first | rfl | assumption | exact (show isTale _ from by assumption).1 | exact (show isCamp _ _ from by assumption).1 | exact (show isRow _ _ from by assumption).1) (by rfl) ?_
              refine Gs_iload_n p107_78 rfl rfl ?_
              refine Gs_callV1I p107_79 (by rfl) (by rfl) (by rfl) (Nat.le_of_ble_eq_true rfl) (by decide) (c_woodAhead gk (by omega) (by omega) n6 (h52.a2 (show 0 ≤ k by omega) (by omega)).1 (h52.a2 (show 0 ≤ k by omega) (by omega)).2.1) (by omega) ?_
              refine Gs_iret p107_82 rfl ⟨_, rfl, ?_⟩
              first
                | exact ⟨(h52.a1 (by omega)).symm, h52.1⟩
                | exact ⟨(h52.a2 (show 0 ≤ k by omega) (by omega)).2.2.symm, h52.1⟩
            · refine Gs_iload p107_69 rfl rfl ?_
              refine Gs_goto (tgt := 82) p107_71 (by rfl) ?_
              refine Gs_iret p107_82 rfl ⟨_, rfl, ?_⟩
              first
                | exact ⟨(h52.a1 (by omega)).symm, h52.1⟩
                | exact ⟨(h52.a2 (show 0 ≤ k by omega) (by omega)).2.2.symm, h52.1⟩
        · refine Gs_bipush p107_39 (by decide) ?_
          refine Gs_iret p107_41 rfl ⟨_, rfl, ?_⟩
          exfalso; omega
      · refine Gs_iconst p107_26 ?_
        refine Gs_iret p107_27 rfl ⟨_, rfl, ?_⟩
        exfalso; omega

set_option maxHeartbeats 1000000 in
set_option maxRecDepth 4000 in
theorem k_stays_no {X : vX} {s : St} {c n k nn : Int} (hC : CampOk s 14 nn) (gc : rg c) (gn : rg n) (gk : rg k) (hno : ¬ (((0 ≤ c ∧ c < nn) ∧ (1 ≤ n ∧ n ≤ 6) ∧ -1 ≤ k) ∧ 1 ≤ cg s 14 c 0)) : OkI X 31 107 [.ref 0, .int (iI c), .int (iI n), .int (iI k)] s (Is1 (if ((0 ≤ c ∧ c < nn) ∧ (1 ≤ n ∧ n ≤ 6) ∧ -1 ≤ k) then -2 else -1) s) := by
  refine Ok.of (r := vm_m107) (ls := [some (.ref 0), some (.int (iI c)), some (.int (iI n)), some (.int (iI k)), none]) rfl (Nat.le_of_ble_eq_true rfl) rfl (fun d hd => ?_)
  refine Gs_aload_n p107_0 rfl rfl ?_
  refine Gs_getR p107_1 (by first | rfl | assumption | exact (show isTale _ from by assumption).1 | exact (show isCamp _ _ from by assumption).1 | exact (show isRow _ _ from by assumption).1) (by rfl) ?_
  refine Gs_iload_n p107_4 rfl rfl ?_
  refine Gs_callV1I p107_5 (by rfl) (by rfl) (by first | rfl | assumption | exact (show isTale _ from by assumption).1 | exact (show isCamp _ _ from by assumption).1 | exact (show isRow _ _ from by assumption).1) (Nat.le_of_ble_eq_true rfl) (by decide) (c_isCompany camp14 hC gc) (by omega) ?_
  refine Gs_ifb_eq (tgt := 26) p107_8 (by rfl) (fun h8 => ?_) (fun h8 => ?_)
  · refine Gs_iconst p107_26 ?_
    refine Gs_iret p107_27 rfl ⟨_, rfl, ?_⟩
    refine ⟨?_, rfl⟩
    first | (rw [if_neg (by omega)]; done) | (rw [if_pos (by omega)]; done)
  · refine Gs_iload_n p107_11 rfl rfl ?_
    refine Gs_iconst p107_12 ?_
    refine Gs_bipush p107_13 (by decide) ?_
    refine Gs_callS3I p107_15 (by rfl) (Nat.le_of_ble_eq_true rfl) (by decide) (c_within gn ⟨by omega, by omega⟩ ⟨by omega, by omega⟩) (by omega) ?_
    refine Gs_ifb_eq (tgt := 26) p107_18 (by rfl) (fun h18 => ?_) (fun h18 => ?_)
    · refine Gs_iconst p107_26 ?_
      refine Gs_iret p107_27 rfl ⟨_, rfl, ?_⟩
      refine ⟨?_, rfl⟩
      first | (rw [if_neg (by omega)]; done) | (rw [if_pos (by omega)]; done)
    · refine Gs_iload_n p107_21 rfl rfl ?_
      refine Gs_iconst p107_22 ?_
      refine Gs_icmp_ge (tgt := 28) p107_23 (by rfl) (by first | assumption | exact ⟨by omega, by omega⟩ | (split <;> exact ⟨by omega, by omega⟩)) (by first | assumption | exact ⟨by omega, by omega⟩ | (split <;> exact ⟨by omega, by omega⟩)) (fun h23 => ?_) (fun h23 => ?_)
      · refine Gs_aload_n p107_28 rfl rfl ?_
        refine Gs_getR p107_29 (by first | rfl | assumption | exact (show isTale _ from by assumption).1 | exact (show isCamp _ _ from by assumption).1 | exact (show isRow _ _ from by assumption).1) (by rfl) ?_
        refine Gs_iload_n p107_32 rfl rfl ?_
        refine Gs_callV1I p107_33 (by rfl) (by rfl) (by first | rfl | assumption | exact (show isTale _ from by assumption).1 | exact (show isCamp _ _ from by assumption).1 | exact (show isRow _ _ from by assumption).1) (Nat.le_of_ble_eq_true rfl) (by decide) (c_isIn camp14 hC (by omega) (by omega)) (by omega) ?_
        refine Gs_ifb_ne (tgt := 42) p107_36 (by rfl) (fun h36 => ?_) (fun h36 => ?_)
        · exfalso; omega
        · refine Gs_bipush p107_39 (by decide) ?_
          refine Gs_iret p107_41 rfl ⟨_, rfl, ?_⟩
          refine ⟨?_, rfl⟩
          first | (rw [if_neg (by omega)]; done) | (rw [if_pos (by omega)]; done)
      · refine Gs_iconst p107_26 ?_
        refine Gs_iret p107_27 rfl ⟨_, rfl, ?_⟩
        refine ⟨?_, rfl⟩
        first | (rw [if_neg (by omega)]; done) | (rw [if_pos (by omega)]; done)
