/-! tell, the class' call -/
theorem itB_closed {C : Int → Int → Int} {L a : Int} (hL0 : 1 ≤ L) (hL : L ≤ 32) (hC : ∀ l w, 0 ≤ l → l < L → 0 ≤ w → w < 4 → 0 ≤ C l w ∧ C l w < L) (a0 : 0 ≤ a) (a1 : a < L) : bq (iI (itB C L (shI a) (L - 1).toNat)) a.toNat = true ∧ ∀ l w, 0 ≤ l → l < L → 0 ≤ w → w < 4 → bq (iI (itB C L (shI a) (L - 1).toNat)) l.toNat = true → bq (iI (itB C L (shI a) (L - 1).toNat)) (C l w).toNat = true := by
  constructor
  · have up : ∀ k : Nat, bq (iI (itB C L (shI a) k)) a.toNat = true := by
      intro k
      induction k with
      | zero => show bq (iI (shI a)) a.toNat = true; rw [bq_shI a0 (by omega) (by omega)]; exact decide_eq_true rfl
      | succ k ih => exact stB_up ih
    exact up _
  · intro l w l0 l1 w0 w1 h
    have c := hC l w l0 l1 w0 w1
    have f := itB_fix hL0 hL hC (low_shI a0 a1 hL) (crd_shI a0 a1 hL)
    rw [show L.toNat = (L - 1).toNat + 1 by omega] at f
    rw [← f]
    show bq (iI (stB C L (itB C L (shI a) (L - 1).toNat))) (C l w).toNat = true
    unfold stB
    rw [bq_orI, (accB_bit (had := itB C L (shI a) (L - 1).toNat) (a := 0) hL hC (i := (C l w).toNat) (by omega) (4 * L).toNat (by omega)).mpr (Or.inr ⟨(4 * l + w).toNat, by omega, by rw [show (4 * l + w).toNat / 4 = l.toNat by omega]; exact h, by rw [show ((4 * l + w).toNat : Int) / 4 = l by omega, show ((4 * l + w).toNat : Int) % 4 = w by omega]; omega⟩), Bool.or_true]
theorem reach_none {C : Int → Int → Int} {L a wt hot : Int} {lg : Int → Int} (hL0 : 1 ≤ L) (hL : L ≤ 32) (hC : ∀ l w, 0 ≤ l → l < L → 0 ≤ w → w < 4 → 0 ≤ C l w ∧ C l w < L) (a0 : 0 ≤ a) (a1 : a < L) (hb : biI (itB C L (shI a) (L - 1).toNat) wt = 0) (f n : Nat) : tlA C wt lg hot a f n = none := by
  have q := itB_closed hL0 hL hC a0 a1
  refine tlA_none (fun m => ?_) f n
  cases e : tl C wt m lg hot a with
  | none => rfl
  | some p =>
    have := tl_in (S := fun x => (0 ≤ x ∧ x < L) ∧ bq (iI (itB C L (shI a) (L - 1).toNat)) x.toNat = true) (fun l w h w0 w1 => ⟨hC l w h.1.1 h.1.2 w0 w1, q.2 l w h.1.1 h.1.2 w0 w1 h.2⟩) m lg hot a p ⟨⟨a0, a1⟩, q.1⟩ e
    have h1 := biI_t.mpr this.2
    omega
def TFr (s t : St) : Prop := (∀ a z, a < 74 ∨ 79 ≤ a → vA t a z = vA s a z) ∧ (∀ a k, a < 74 ∨ 79 ≤ a → vF t a k = vF s a k)
def PTl (s : St) (R : Option (Nat × (Nat → Int))) (z : Int) (t : St) : Prop := TFr s t ∧ match R with
  | none => z = -4
  | some (n, p) => z = n ∧ n ≤ 6 ∧ vF t 74 4 = n ∧ vF t 77 1 = 6 ∧ ∀ i : Nat, i < n → vA t 78 i = p i
theorem PTl.b {s t : St} {R : Option (Nat × (Nat → Int))} {z : Int} (h : PTl s R z t) : -4 ≤ z ∧ z ≤ 6 := by
  have h2 := h.2
  split at h2
  · omega
  · omega
theorem PTl.a1 {s t : St} {R : Option (Nat × (Nat → Int))} {z k : Int} (h : PTl s R z t) (hk : k = -1 ∨ z = -4) : ansT R k = z := by
  have h2 := h.2
  unfold ansT
  split at h2
  · exact h2.symm
  · show (if k = -1 then _ else _) = _
    rw [if_pos (by omega)]; exact h2.1.symm
theorem PTl.a2 {s t : St} {R : Option (Nat × (Nat → Int))} {z k : Int} (h : PTl s R z t) (hk : 0 ≤ k) (hz : ¬ z = -4) : 0 ≤ vF t 74 4 ∧ vF t 74 4 ≤ 6 ∧ vF t 77 1 = 6 ∧ ansT R k = if k < vF t 74 4 then vA t 78 k else -4 := by
  have h2 := h.2
  unfold ansT
  split at h2
  · exact absurd h2 hz
  · obtain ⟨q1, q2, q3, q4, q5⟩ := h2
    refine ⟨by omega, by omega, q4, ?_⟩
    rw [q3]
    show (if k = -1 then _ else _) = _
    rw [if_neg (by omega)]
    split
    · have := q5 k.toNat (by omega)
      rw [show ((k.toNat : Nat) : Int) = k by omega] at this
      exact this.symm
    · rfl
def TB (s y : St) (l : Int) (lg : Int → Int) : Prop := (∀ a z, a ≠ 76 → a ≠ 78 → vA y a z = vA s a z) ∧ (∀ a k, ¬ (a = 74 ∧ (k = 3 ∨ k = 4)) → ¬ (a = 75 ∧ k = 1) → ¬ (a = 77 ∧ k = 1) → vF y a k = vF s a k) ∧ vF y 74 3 = l ∧ vF y 75 1 = 4 ∧ vF y 77 1 = 6 ∧ (∀ x, 0 ≤ x → x < 4 → vA y 76 x = lg x)
theorem TB.po {s y t : St} {l place : Int} {lg : Int → Int} (h : TB s y l lg) (g : TPo y t place) : TB s t l lg :=
  ⟨fun a z x1 x2 => (g.1 a z x2).trans (h.1 a z x1 x2), fun a k x1 x2 x3 => (g.2.2 a k).trans (h.2.1 a k x1 x2 x3), (g.2.2 _ _).trans h.2.2.1, (g.2.2 _ _).trans h.2.2.2.1, (g.2.2 _ _).trans h.2.2.2.2.1, fun x x0 x1 => (g.1 76 x (by decide)).trans (h.2.2.2.2.2 x x0 x1)⟩
theorem TB.len {s y : St} {l v : Int} {lg : Int → Int} (h : TB s y l lg) : TB s (sF y 74 4 v) l lg :=
  ⟨h.1, fun a k x1 x2 x3 => by rw [vF_sF, if_neg (by omega)]; exact h.2.1 a k x1 x2 x3, by rw [vF_sF, if_neg (by omega)]; exact h.2.2.1, by rw [vF_sF, if_neg (by omega)]; exact h.2.2.2.1, by rw [vF_sF, if_neg (by omega)]; exact h.2.2.2.2.1, h.2.2.2.2.2⟩
theorem TB.fr {s y : St} {l : Int} {lg : Int → Int} (h : TB s y l lg) : TFr s y := ⟨fun a z x => h.1 a z (by omega) (by omega), fun a k x => h.2.1 a k (by omega) (by omega) (by omega)⟩
theorem TB.pre {s y : St} {l : Int} {lg : Int → Int} (h : TB s y l lg) {n : Nat} {hot at_ L : Int} (hT : TaleOk s 5) (hcl : ∀ l w, 0 ≤ l → l < L → 0 ≤ cfI s 5 l w ∧ cfI s 5 l w < L) (hL : L ≤ 9) (hn : n ≤ 6) (hg : ∀ x, 0 ≤ x → x < 4 → 0 ≤ lg x ∧ lg x ≤ 200) (h0 : 0 ≤ hot) (h1 : hot ≤ 20) (a0 : 0 ≤ at_) (a1 : at_ < L) (l0 : 0 ≤ l) (l1 : l < 9) : TPre (sF y 74 4 n) (cfI s 5) L l 0 n hot at_ lg := by
  obtain ⟨b1, b2, b3, b4, b5, b6⟩ := h.len (v := (n : Int))
  have e : ∀ l w, cfI (sF y 74 4 n) 5 l w = cfI s 5 l w := fun l w => cfI_cong (b2 _ _ (by decide) (by decide) (by decide)) (fun z => b1 _ z (by decide) (by decide)) l w
  exact ⟨hT.cong (b2 _ _ (by decide) (by decide) (by decide)) (b2 _ _ (by decide) (by decide) (by decide)) (b2 _ _ (by decide) (by decide) (by decide)) (fun z => b1 _ z (by decide) (by decide)) (fun z => b1 _ z (by decide) (by decide)), fun l w c0 c1 _ _ => ⟨e l w, hcl l w c0 c1⟩, hL, by rw [vF_sF, if_pos ⟨rfl, rfl⟩]; omega, b3, b4, b5, fun x x0 x1 => ⟨b6 x x0 x1, hg x x0 x1⟩, by omega, by omega, h0, h1, a0, a1, l0, l1⟩
set_option maxHeartbeats 4000000 in
set_option maxRecDepth 4000 in
theorem c_tfewest {X : vX} {s : St} {c l n : Int} (hT : TaleOk s 5) (hcl : ∀ l w, 0 ≤ l → l < vF s 5 4 → 0 ≤ cfI s 5 l w ∧ cfI s 5 l w < vF s 5 4) (hC : CampOk s 14 n) (c0 : 0 ≤ c) (c1 : c < n) (a0 : 0 ≤ cg s 14 c 1) (a1 : cg s 14 c 1 < vF s 5 4) (l0 : 0 ≤ l) (l1 : l < vF s 5 4) : OkI X 30 88 [.ref 74, .ref 14, .int (iI c), .int (iI l)] s (PTl s (tlA (cfI s 5) l (fun x => cg s 14 c (2 + x)) (cg s 14 c 0) (cg s 14 c 1) 7 0)) := by
  refine Ok.of (r := vm_m88) (ls := [some (.ref 74), some (.ref 14), some (.int (iI c)), some (.int (iI l)), none]) rfl (Nat.le_of_ble_eq_true rfl) rfl (fun d hd => ?_)
  obtain ⟨k1, k2, k3, k4, k5, k6, k7⟩ := id hT
  have hn4 := hC.2.1
  have hh0 := hC.b c0 c1 (w := 0) (by omega) (by omega)
  have lA := lwA
  have hg : ∀ x, 0 ≤ x → x < 4 → 0 ≤ cg s 14 c (2 + x) ∧ cg s 14 c (2 + x) ≤ 200 := fun x x0 x1 => by
    have := hC.b c0 c1 (w := 2 + x) (by omega) (by omega)
    have := lw2 x0 x1
    omega
  have bb := biI_b (itB (cfI s 5) (vF s 5 4) (shI (cg s 14 c 1)) (vF s 5 4 - 1).toNat) l
  generalize hR : tlA (cfI s 5) l (fun x => cg s 14 c (2 + x)) (cg s 14 c 0) (cg s 14 c 1) 7 0 = R
  refine Gs_aload_n p88_0 rfl rfl ?_
  refine Gs_getR p88_1 (by first | rfl | assumption | exact (show isTale _ from by assumption).1 | exact (show isCamp _ _ from by assumption).1 | exact (show isRow _ _ from by assumption).1) (by rfl) ?_
  refine Gs_aload_n p88_4 rfl rfl ?_
  refine Gs_iload_n p88_5 rfl rfl ?_
  refine Gs_iconst p88_6 ?_
  refine Gs_callV2I p88_7 (by rfl) (by rfl) (by rfl) (Nat.le_of_ble_eq_true rfl) (by decide) (c_Cget camp14 hC c0 c1 (by omega) (by omega)) (by omega) ?_
  refine Gs_callV1I p88_10 (by rfl) (by rfl) (by rfl) (Nat.le_of_ble_eq_true rfl) (by decide) (c_reached tale5 hT hcl a0 a1) (by omega) ?_
  refine Gs_iload_n p88_13 rfl rfl ?_
  refine Gs_ishr p88_14 (iI_of _).symm ?_
  refine Gs_iconst p88_15 ?_
  refine Gs_iand p88_16 (biI_e l0 (by omega)) ?_
  refine Gs_if_ne (tgt := 23) p88_17 (by rfl) (by first | assumption | exact ⟨by omega, by omega⟩ | (split <;> exact ⟨by omega, by omega⟩)) (fun h17 => ?_) (fun h17 => ?_)
  · refine Gs_aload_n p88_23 rfl rfl ?_
    refine Gs_iload_n p88_24 rfl rfl ?_
    refine Gs_putI p88_25 (by first | rfl | assumption | exact (show isTale _ from by assumption).1 | exact (show isCamp _ _ from by assumption).1 | exact (show isRow _ _ from by assumption).1) (by rfl) (by rfl) (by rfl) ?_
    refine Gs_aload_n p88_28 rfl rfl ?_
    refine Gs_getR p88_29 (by first | rfl | assumption | exact (show isTale _ from by assumption).1 | exact (show isCamp _ _ from by assumption).1 | exact (show isRow _ _ from by assumption).1) (by rfl) ?_
    refine Gs_callV0W p88_32 (by rfl) (by rfl) (by rfl) (Nat.le_of_ble_eq_true rfl) (by decide) (c_clear row75) (by omega) ?_
    refine Gs_iconst p88_35 ?_
    refine Gs_ist4 p88_36 (by first | rfl | assumption) ?_
    refine dn (n := (4 : Int)) (P := fun j => ∀ y, (∀ a z, a ≠ 76 → vA y a z = vA s a z) → (∀ a k, ¬ (a = 74 ∧ k = 3) → ¬ (a = 75 ∧ k = 1) → vF y a k = vF s a k) → vF y 74 3 = l → vF y 75 1 = j → (∀ x, 0 ≤ x → x < j → vA y 76 x = cg s 14 c (2 + x)) → Gs X d 88 38 [some (.ref 74), some (.ref 14), some (.int (iI c)), some (.int (iI l)), some (.int (iI j))] [] (y) (fun vv yy => ∃ zz : Int, vv = some (.int (iI zz)) ∧ (PTl s R) zz yy)) (by omega) (fun j hj hjn ihl => ?_) ?_ _ (fun _ _ _ => rfl) (fun a k x1 x2 => by rw [vF_sF, if_neg x2, vF_sF, if_neg x1]) rfl rfl (fun x x0 x1 => absurd x1 (by omega))
    · show ∀ y, (∀ a z, a ≠ 76 → vA y a z = vA s a z) → (∀ a k, ¬ (a = 74 ∧ k = 3) → ¬ (a = 75 ∧ k = 1) → vF y a k = vF s a k) → vF y 74 3 = l → vF y 75 1 = j → (∀ x, 0 ≤ x → x < j → vA y 76 x = cg s 14 c (2 + x)) → Gs X d 88 38 [some (.ref 74), some (.ref 14), some (.int (iI c)), some (.int (iI l)), some (.int (iI j))] [] (y) _
      intro y ya yf y3 y1 yl
      have fC : CampOk y 14 n := hC.cong (yf _ _ (by decide) (by decide)) (yf _ _ (by decide) (by decide)) (fun z => ya _ z (by decide))
      refine Gs_iload p88_38 rfl rfl ?_
      refine Gs_iconst p88_40 ?_
      refine Gs_icmp_ge (tgt := 66) p88_41 (by rfl) (by first | assumption | exact ⟨by omega, by omega⟩ | (split <;> exact ⟨by omega, by omega⟩)) (by first | assumption | exact ⟨by omega, by omega⟩ | (split <;> exact ⟨by omega, by omega⟩)) (fun hc41 => absurd ‹_› (by first | omega | assumption)) (fun hc41 => ?_)
      refine Gs_aload_n p88_44 rfl rfl ?_
      refine Gs_getR p88_45 (by first | rfl | assumption | exact (show isTale _ from by assumption).1 | exact (show isCamp _ _ from by assumption).1 | exact (show isRow _ _ from by assumption).1) (by rfl) ?_
      refine Gs_aload_n p88_48 rfl rfl ?_
      refine Gs_iload_n p88_49 rfl rfl ?_
      refine Gs_iconst p88_50 ?_
      refine Gs_iload p88_51 rfl rfl ?_
      refine Gs_iadd p88_53 ?_
      refine Gs_callV2I p88_54 (by rfl) (by rfl) (by rfl) (Nat.le_of_ble_eq_true rfl) (by decide) (c_Cget camp14 fC c0 c1 (by omega) (by omega)) (by omega) ?_
      rw [show cg y 14 c (2 + j) = cg s 14 c (2 + j) from ya 16 _ (by decide)]
      refine Gs_callV1W p88_57 (by rfl) (by rfl) (by rfl) (Nat.le_of_ble_eq_true rfl) (by decide) (c_aadd (a := 76) row75 rfl (by omega) (by omega)) (by omega) ?_
      refine Gs_iinc4 (b54 := none) p88_60 (by first | rfl | assumption) ?_
      refine Gs_goto (tgt := 38) p88_63 (by rfl) ?_
      refine ihl _ (fun a z x1 => by rw [vA_sF, vA_sA, if_neg (fun r => x1 r.1)]; exact ya a z x1) (fun a k x1 x2 => by rw [vF_sF, if_neg x2]; exact yf a k x1 x2) (by rw [vF_sF, if_neg (by omega)]; exact y3) (by rw [vF_sF, if_pos ⟨rfl, rfl⟩, y1]) (fun x x0 x1 => ?_)
      rw [vA_sF, vA_sA, y1]
      by_cases ex : x = j
      · rw [if_pos ⟨rfl, ex⟩, ex]
      · rw [if_neg (fun r => ex r.2)]; exact yl x x0 (by omega)
    · show ∀ y, (∀ a z, a ≠ 76 → vA y a z = vA s a z) → (∀ a k, ¬ (a = 74 ∧ k = 3) → ¬ (a = 75 ∧ k = 1) → vF y a k = vF s a k) → vF y 74 3 = l → vF y 75 1 = ((4 : Int)) → (∀ x, 0 ≤ x → x < ((4 : Int)) → vA y 76 x = cg s 14 c (2 + x)) → Gs X d 88 38 [some (.ref 74), some (.ref 14), some (.int (iI c)), some (.int (iI l)), some (.int (iI ((4 : Int))))] [] (y) _
      intro y ya yf y3 y1 yl
      have ob : TB s (cF (sF y 77 1 6) 78 6 (-4)) l (fun x => cg s 14 c (2 + x)) := by
        refine ⟨fun a z x1 x2 => ?_, fun a k x1 x2 x3 => ?_, ?_, ?_, rfl, fun x x0 x1 => ?_⟩
        · rw [cF_A, if_neg (fun r => x2 r.1)]; exact ya a z x1
        · rw [cF_F, vF_sF, if_neg x3]; exact yf a k (by omega) x2
        · rw [cF_F, vF_sF, if_neg (by omega)]; exact y3
        · rw [cF_F, vF_sF, if_neg (by omega)]; exact y1
        · rw [cF_A, if_neg (by omega)]; exact yl x x0 x1
      refine Gs_iload p88_38 rfl rfl ?_
      refine Gs_iconst p88_40 ?_
      refine Gs_icmp_ge (tgt := 66) p88_41 (by rfl) (by first | assumption | exact ⟨by omega, by omega⟩ | (split <;> exact ⟨by omega, by omega⟩)) (by first | assumption | exact ⟨by omega, by omega⟩ | (split <;> exact ⟨by omega, by omega⟩)) (fun hc41 => ?_) (fun hc41 => absurd ‹_› (by first | omega | assumption))
      refine Gs_aload_n p88_66 rfl rfl ?_
      refine Gs_getR p88_67 (by first | rfl | assumption | exact (show isTale _ from by assumption).1 | exact (show isCamp _ _ from by assumption).1 | exact (show isRow _ _ from by assumption).1) (by rfl) ?_
      refine Gs_bipush p88_70 (by decide) ?_
      refine Gs_callV1W p88_72 (by rfl) (by rfl) (by rfl) (Nat.le_of_ble_eq_true rfl) (by decide) (c_afill (a := 78) row77 rfl) (by omega) ?_
      refine Gs_iconst p88_75 ?_
      refine Gs_ist4 p88_76 (by first | rfl | assumption) ?_
      refine dn (n := (7 : Int)) (P := fun i => ∀ y, TB s y l (fun x => cg s 14 c (2 + x)) → tlA (cfI s 5) l (fun x => cg s 14 c (2 + x)) (cg s 14 c 0) (cg s 14 c 1) (7 - i).toNat i.toNat = R → Gs X d 88 78 [some (.ref 74), some (.ref 14), some (.int (iI c)), some (.int (iI l)), some (.int (iI i))] [] (y) (fun vv yy => ∃ zz : Int, vv = some (.int (iI zz)) ∧ (PTl s R) zz yy)) (by omega) (fun i hi hin ih => ?_) ?_ _ ob hR
      · show ∀ y, TB s y l (fun x => cg s 14 c (2 + x)) → tlA (cfI s 5) l (fun x => cg s 14 c (2 + x)) (cg s 14 c 0) (cg s 14 c 1) (7 - i).toNat i.toNat = R → Gs X d 88 78 [some (.ref 74), some (.ref 14), some (.int (iI c)), some (.int (iI l)), some (.int (iI i))] [] (y) _
        intro y o e
        rw [show (7 - i).toNat = (7 - (i + 1)).toNat + 1 by omega, tlA_s, show i.toNat + 1 = (i + 1).toNat by omega] at e
        have ol := o.len (v := i)
        have fC : CampOk (sF y 74 4 i) 14 n := hC.cong (ol.2.1 _ _ (by decide) (by decide) (by decide)) (ol.2.1 _ _ (by decide) (by decide) (by decide)) (fun z => ol.1 _ z (by decide) (by decide))
        have fg : ∀ w, cg (sF y 74 4 i) 14 c w = cg s 14 c w := fun w => ol.1 16 _ (by decide) (by decide)
        have B := c_isTold (X := X) i.toNat _ 0 (cg s 14 c 0) (cg s 14 c 1) (fun x => cg s 14 c (2 + x)) (o.pre (n := i.toNat) hT hcl k2 (by omega) hg (by omega) (by omega) a0 a1 l0 (by omega))
        rw [show ((i.toNat : Nat) : Int) = i by omega] at B
        refine Gs_iload p88_78 rfl rfl ?_
        refine Gs_bipush p88_80 (by decide) ?_
        refine Gs_icmp_gt (tgt := 120) p88_82 (by rfl) (by first | assumption | exact ⟨by omega, by omega⟩ | (split <;> exact ⟨by omega, by omega⟩)) (by first | assumption | exact ⟨by omega, by omega⟩ | (split <;> exact ⟨by omega, by omega⟩)) (fun hc82 => absurd ‹_› (by first | omega | assumption)) (fun hc82 => ?_)
        refine Gs_aload_n p88_85 rfl rfl ?_
        refine Gs_iload p88_86 rfl rfl ?_
        refine Gs_putI p88_88 (by first | rfl | assumption | exact (show isTale _ from by assumption).1 | exact (show isCamp _ _ from by assumption).1 | exact (show isRow _ _ from by assumption).1) (by rfl) (by rfl) (by rfl) ?_
        refine Gs_aload_n p88_91 rfl rfl ?_
        refine Gs_iconst p88_92 ?_
        refine Gs_aload_n p88_93 rfl rfl ?_
        refine Gs_iload_n p88_94 rfl rfl ?_
        refine Gs_iconst p88_95 ?_
        refine Gs_callV2I p88_96 (by rfl) (by rfl) (by rfl) (Nat.le_of_ble_eq_true rfl) (by decide) (c_Cget camp14 fC c0 c1 (by omega) (by omega)) (by omega) ?_
        rw [fg]
        refine Gs_aload_n p88_99 rfl rfl ?_
        refine Gs_iload_n p88_100 rfl rfl ?_
        refine Gs_iconst p88_101 ?_
        refine Gs_callV2I p88_102 (by rfl) (by rfl) (by rfl) (Nat.le_of_ble_eq_true rfl) (by decide) (c_Cget camp14 fC c0 c1 (by omega) (by omega)) (by omega) ?_
        rw [fg]
        refine Gs_callV3i p88_105 (by rfl) (by rfl) (by rfl) (Nat.le_of_ble_eq_true rfl) (by decide) (B) (by omega) (fun z105 s105 h105 => ?_)
        rw [h105.1]
        refine Gs_ifb_eq (tgt := 114) p88_108 (by rfl) (fun h108 => ?_) (fun h108 => ?_)
        · refine Gs_iinc4 (b54 := none) p88_114 (by first | rfl | assumption) ?_
          refine Gs_goto (tgt := 78) p88_117 (by rfl) ?_
          cases eo : tl (cfI s 5) l i.toNat (fun x => cg s 14 c (2 + x)) (cg s 14 c 0) (cg s 14 c 1) with
          | none => rw [eo] at e; exact ih _ (ol.po h105.2.1) e
          | some q => rw [eo] at h108; exact absurd rfl h108
        · refine Gs_iload p88_111 rfl rfl ?_
          refine Gs_iret p88_113 rfl ⟨_, rfl, ?_⟩
          cases eo : tl (cfI s 5) l i.toNat (fun x => cg s 14 c (2 + x)) (cg s 14 c 0) (cg s 14 c 1) with
          | none => rw [eo] at h108; exact absurd h108 (by decide)
          | some q =>
            rw [eo] at e
            have e : some (i.toNat, q) = R := e
            subst e
            have ot := ol.po h105.2.1
            refine ⟨ot.fr, by omega, by omega, ?_, ot.2.2.2.2.1, fun j hj => ?_⟩
            · rw [h105.2.1.2.2, vF_sF, if_pos ⟨rfl, rfl⟩]; omega
            · have := h105.2.2 q eo j hj
              rw [Int.zero_add] at this
              exact this
      · show ∀ y, TB s y l (fun x => cg s 14 c (2 + x)) → tlA (cfI s 5) l (fun x => cg s 14 c (2 + x)) (cg s 14 c 0) (cg s 14 c 1) (7 - ((7 : Int))).toNat ((7 : Int)).toNat = R → Gs X d 88 78 [some (.ref 74), some (.ref 14), some (.int (iI c)), some (.int (iI l)), some (.int (iI ((7 : Int))))] [] (y) _
        intro y o e
        refine Gs_iload p88_78 rfl rfl ?_
        refine Gs_bipush p88_80 (by decide) ?_
        refine Gs_icmp_gt (tgt := 120) p88_82 (by rfl) (by first | assumption | exact ⟨by omega, by omega⟩ | (split <;> exact ⟨by omega, by omega⟩)) (by first | assumption | exact ⟨by omega, by omega⟩ | (split <;> exact ⟨by omega, by omega⟩)) (fun hc82 => ?_) (fun hc82 => absurd ‹_› (by first | omega | assumption))
        refine Gs_bipush p88_120 (by decide) ?_
        refine Gs_iret p88_122 rfl ⟨_, rfl, ?_⟩
        have e : none = R := e
        subst e
        exact ⟨o.fr, rfl⟩
  · refine Gs_bipush p88_20 (by decide) ?_
    refine Gs_iret p88_22 rfl ⟨_, rfl, ?_⟩
    have hn := reach_none (C := cfI s 5) (hot := cg s 14 c 0) (lg := fun x => cg s 14 c (2 + x)) (by omega) (by omega) (fun l w b0 b1 _ _ => hcl l w b0 b1) a0 a1 (wt := l) (by omega) 7 0
    rw [hn] at hR
    subst hR
    exact ⟨⟨fun _ _ _ => rfl, fun _ _ _ => rfl⟩, rfl⟩

set_option maxHeartbeats 1000000 in
set_option maxRecDepth 4000 in
theorem c_twoodAt {X : vX} {s : St} {k : Int} (gk : rg k) (k0 : 0 ≤ k) (b0 : 0 ≤ vF s 74 4) (b1 : vF s 74 4 ≤ 6) (b2 : vF s 77 1 = 6) : OkI X 1 89 [.ref 74, .int (iI k)] s (Is1 (if k < vF s 74 4 then vA s 78 k else -4) s) := by
  refine Ok.of (r := vm_m89) (ls := [some (.ref 74), some (.int (iI k))]) rfl (Nat.le_of_ble_eq_true rfl) rfl (fun d hd => ?_)
  refine Gs_iload_n p89_0 rfl rfl ?_
  refine Gs_aload_n p89_1 rfl rfl ?_
  refine Gs_getI p89_2 (by first | rfl | assumption | exact (show isTale _ from by assumption).1 | exact (show isCamp _ _ from by assumption).1 | exact (show isRow _ _ from by assumption).1) (by rfl) ?_
  refine Gs_icmp_ge (tgt := 19) p89_5 (by rfl) (by first | assumption | exact ⟨by omega, by omega⟩ | (split <;> exact ⟨by omega, by omega⟩)) (by first | assumption | exact ⟨by omega, by omega⟩ | (split <;> exact ⟨by omega, by omega⟩)) (fun h5 => ?_) (fun h5 => ?_)
  · refine Gs_bipush p89_19 (by decide) ?_
    refine Gs_iret p89_21 rfl ⟨_, rfl, ?_⟩
    first
      | (rw [if_pos (by omega)]; exact ⟨rfl, rfl⟩)
      | (rw [if_neg (by omega)]; exact ⟨rfl, rfl⟩)
  · refine Gs_aload_n p89_8 rfl rfl ?_
    refine Gs_getR p89_9 (by first | rfl | assumption | exact (show isTale _ from by assumption).1 | exact (show isCamp _ _ from by assumption).1 | exact (show isRow _ _ from by assumption).1) (by rfl) ?_
    refine Gs_iload_n p89_12 rfl rfl ?_
    refine Gs_callV1I p89_13 (by rfl) (by rfl) (by rfl) (Nat.le_of_ble_eq_true rfl) (by decide) (c_agot (a := 78) row77 rfl ⟨by omega, by omega⟩ (by omega) (by omega) (by omega) (by omega)) (by omega) ?_
    refine Gs_goto (tgt := 21) p89_16 (by rfl) ?_
    refine Gs_iret p89_21 rfl ⟨_, rfl, ?_⟩
    first
      | (rw [if_pos (by omega)]; exact ⟨rfl, rfl⟩)
      | (rw [if_neg (by omega)]; exact ⟨rfl, rfl⟩)

set_option maxHeartbeats 1000000 in
set_option maxRecDepth 4000 in
theorem k_tell {X : vX} {s : St} {c l k n : Int} (hT : TaleOk s 5) (hcl : ∀ l w, 0 ≤ l → l < vF s 5 4 → 0 ≤ cfI s 5 l w ∧ cfI s 5 l w < vF s 5 4) (hC : CampOk s 14 n) (c0 : 0 ≤ c) (c1 : c < n) (a0 : 0 ≤ cg s 14 c 1) (a1 : cg s 14 c 1 < vF s 5 4) (l0 : 0 ≤ l) (l1 : l < vF s 5 4) (gk : rg k) (hk : -1 ≤ k) (c2 : 1 ≤ cg s 14 c 0) : OkI X 31 108 [.ref 0, .int (iI c), .int (iI l), .int (iI k)] s (fun z t => z = ansT (tlA (cfI s 5) l (fun x => cg s 14 c (2 + x)) (cg s 14 c 0) (cg s 14 c 1) 7 0) k ∧ TFr s t) := by
  refine Ok.of (r := vm_m108) (ls := [some (.ref 0), some (.int (iI c)), some (.int (iI l)), some (.int (iI k)), none]) rfl (Nat.le_of_ble_eq_true rfl) rfl (fun d hd => ?_)
  obtain ⟨k1, k2, k3, k4, k5, k6, k7⟩ := id hT
  have n4 := hC.2.1
  refine Gs_aload_n p108_0 rfl rfl ?_
  refine Gs_getR p108_1 (by first | rfl | assumption | exact (show isTale _ from by assumption).1 | exact (show isCamp _ _ from by assumption).1 | exact (show isRow _ _ from by assumption).1) (by rfl) ?_
  refine Gs_iload_n p108_4 rfl rfl ?_
  refine Gs_callV1I p108_5 (by rfl) (by rfl) (by first | rfl | assumption | exact (show isTale _ from by assumption).1 | exact (show isCamp _ _ from by assumption).1 | exact (show isRow _ _ from by assumption).1) (Nat.le_of_ble_eq_true rfl) (by decide) (c_isCompany camp14 hC ⟨by omega, by omega⟩) (by omega) ?_
  refine Gs_ifb_eq (tgt := 27) p108_8 (by rfl) (fun h8 => ?_) (fun h8 => ?_)
  · refine Gs_iconst p108_27 ?_
    refine Gs_iret p108_28 rfl ⟨_, rfl, ?_⟩
    exfalso; omega
  · refine Gs_aload_n p108_11 rfl rfl ?_
    refine Gs_getR p108_12 (by first | rfl | assumption | exact (show isTale _ from by assumption).1 | exact (show isCamp _ _ from by assumption).1 | exact (show isRow _ _ from by assumption).1) (by rfl) ?_
    refine Gs_iload_n p108_15 rfl rfl ?_
    refine Gs_callV1I p108_16 (by rfl) (by rfl) (by first | rfl | assumption | exact (show isTale _ from by assumption).1 | exact (show isCamp _ _ from by assumption).1 | exact (show isRow _ _ from by assumption).1) (Nat.le_of_ble_eq_true rfl) (by decide) (c_isLine tale5 hT ⟨by omega, by omega⟩) (by omega) ?_
    refine Gs_ifb_eq (tgt := 27) p108_19 (by rfl) (fun h19 => ?_) (fun h19 => ?_)
    · refine Gs_iconst p108_27 ?_
      refine Gs_iret p108_28 rfl ⟨_, rfl, ?_⟩
      exfalso; omega
    · refine Gs_iload_n p108_22 rfl rfl ?_
      refine Gs_iconst p108_23 ?_
      refine Gs_icmp_ge (tgt := 29) p108_24 (by rfl) (by first | assumption | exact ⟨by omega, by omega⟩ | (split <;> exact ⟨by omega, by omega⟩)) (by first | assumption | exact ⟨by omega, by omega⟩ | (split <;> exact ⟨by omega, by omega⟩)) (fun h24 => ?_) (fun h24 => ?_)
      · refine Gs_aload_n p108_29 rfl rfl ?_
        refine Gs_getR p108_30 (by first | rfl | assumption | exact (show isTale _ from by assumption).1 | exact (show isCamp _ _ from by assumption).1 | exact (show isRow _ _ from by assumption).1) (by rfl) ?_
        refine Gs_iload_n p108_33 rfl rfl ?_
        refine Gs_callV1I p108_34 (by rfl) (by rfl) (by first | rfl | assumption | exact (show isTale _ from by assumption).1 | exact (show isCamp _ _ from by assumption).1 | exact (show isRow _ _ from by assumption).1) (Nat.le_of_ble_eq_true rfl) (by decide) (c_isIn camp14 hC c0 c1) (by omega) ?_
        refine Gs_ifb_ne (tgt := 43) p108_37 (by rfl) (fun h37 => ?_) (fun h37 => ?_)
        · refine Gs_aload_n p108_43 rfl rfl ?_
          refine Gs_getR p108_44 (by first | rfl | assumption | exact (show isTale _ from by assumption).1 | exact (show isCamp _ _ from by assumption).1 | exact (show isRow _ _ from by assumption).1) (by rfl) ?_
          refine Gs_aload_n p108_47 rfl rfl ?_
          refine Gs_getR p108_48 (by first | rfl | assumption | exact (show isTale _ from by assumption).1 | exact (show isCamp _ _ from by assumption).1 | exact (show isRow _ _ from by assumption).1) (by rfl) ?_
          refine Gs_iload_n p108_51 rfl rfl ?_
          refine Gs_iload_n p108_52 rfl rfl ?_
          refine Gs_callV3i p108_53 (by rfl) (by rfl) (by rfl) (Nat.le_of_ble_eq_true rfl) (by decide) (c_tfewest hT hcl hC c0 c1 a0 a1 l0 l1) (by omega) (fun z53 s53 h53 => ?_)
          have bz := h53.b
          refine Gs_ist4 p108_56 (by first | rfl | assumption) ?_
          refine Gs_iload_n p108_58 rfl rfl ?_
          refine Gs_iconst p108_59 ?_
          refine Gs_icmp_eq (tgt := 70) p108_60 (by rfl) (by first | assumption | exact ⟨by omega, by omega⟩ | (split <;> exact ⟨by omega, by omega⟩)) (by first | assumption | exact ⟨by omega, by omega⟩ | (split <;> exact ⟨by omega, by omega⟩)) (fun h60 => ?_) (fun h60 => ?_)
          · refine Gs_iload p108_70 rfl rfl ?_
            refine Gs_goto (tgt := 83) p108_72 (by rfl) ?_
            refine Gs_iret p108_83 rfl ⟨_, rfl, ?_⟩
            first
              | exact ⟨(h53.a1 (by omega)).symm, h53.1⟩
              | exact ⟨(h53.a2 (show 0 ≤ k by omega) (by omega)).2.2.2.symm, h53.1⟩
          · refine Gs_iload p108_63 rfl rfl ?_
            refine Gs_bipush p108_65 (by decide) ?_
            refine Gs_icmp_ne (tgt := 75) p108_67 (by rfl) (by first | assumption | exact ⟨by omega, by omega⟩ | (split <;> exact ⟨by omega, by omega⟩)) (by first | assumption | exact ⟨by omega, by omega⟩ | (split <;> exact ⟨by omega, by omega⟩)) (fun h67 => ?_) (fun h67 => ?_)
            · refine Gs_aload_n p108_75 rfl rfl ?_
              refine Gs_getR p108_76 (by first | rfl | assumption | exact (show isTale _ from by assumption).1 | exact (show isCamp _ _ from by assumption).1 | exact (show isRow _ _ from by assumption).1) (by rfl) ?_
              refine Gs_iload_n p108_79 rfl rfl ?_
              refine Gs_callV1I p108_80 (by rfl) (by rfl) (by rfl) (Nat.le_of_ble_eq_true rfl) (by decide) (c_twoodAt gk (by omega) (h53.a2 (show 0 ≤ k by omega) (by omega)).1 (h53.a2 (show 0 ≤ k by omega) (by omega)).2.1 (h53.a2 (show 0 ≤ k by omega) (by omega)).2.2.1) (by omega) ?_
              refine Gs_iret p108_83 rfl ⟨_, rfl, ?_⟩
              first
                | exact ⟨(h53.a1 (by omega)).symm, h53.1⟩
                | exact ⟨(h53.a2 (show 0 ≤ k by omega) (by omega)).2.2.2.symm, h53.1⟩
            · refine Gs_iload p108_70 rfl rfl ?_
              refine Gs_goto (tgt := 83) p108_72 (by rfl) ?_
              refine Gs_iret p108_83 rfl ⟨_, rfl, ?_⟩
              first
                | exact ⟨(h53.a1 (by omega)).symm, h53.1⟩
                | exact ⟨(h53.a2 (show 0 ≤ k by omega) (by omega)).2.2.2.symm, h53.1⟩
        · refine Gs_bipush p108_40 (by decide) ?_
          refine Gs_iret p108_42 rfl ⟨_, rfl, ?_⟩
          exfalso; omega
      · refine Gs_iconst p108_27 ?_
        refine Gs_iret p108_28 rfl ⟨_, rfl, ?_⟩
        exfalso; omega

set_option maxHeartbeats 1000000 in
set_option maxRecDepth 4000 in
theorem k_tell_no {X : vX} {s : St} {c l k n : Int} (hT : TaleOk s 5) (hC : CampOk s 14 n) (gc : rg c) (gl : rg l) (gk : rg k) (hno : ¬ (((0 ≤ c ∧ c < n) ∧ (0 ≤ l ∧ l < vF s 5 4) ∧ -1 ≤ k) ∧ 1 ≤ cg s 14 c 0)) : OkI X 31 108 [.ref 0, .int (iI c), .int (iI l), .int (iI k)] s (Is1 (if ((0 ≤ c ∧ c < n) ∧ (0 ≤ l ∧ l < vF s 5 4) ∧ -1 ≤ k) then -2 else -1) s) := by
  refine Ok.of (r := vm_m108) (ls := [some (.ref 0), some (.int (iI c)), some (.int (iI l)), some (.int (iI k)), none]) rfl (Nat.le_of_ble_eq_true rfl) rfl (fun d hd => ?_)
  refine Gs_aload_n p108_0 rfl rfl ?_
  refine Gs_getR p108_1 (by first | rfl | assumption | exact (show isTale _ from by assumption).1 | exact (show isCamp _ _ from by assumption).1 | exact (show isRow _ _ from by assumption).1) (by rfl) ?_
  refine Gs_iload_n p108_4 rfl rfl ?_
  refine Gs_callV1I p108_5 (by rfl) (by rfl) (by first | rfl | assumption | exact (show isTale _ from by assumption).1 | exact (show isCamp _ _ from by assumption).1 | exact (show isRow _ _ from by assumption).1) (Nat.le_of_ble_eq_true rfl) (by decide) (c_isCompany camp14 hC gc) (by omega) ?_
  refine Gs_ifb_eq (tgt := 27) p108_8 (by rfl) (fun h8 => ?_) (fun h8 => ?_)
  · refine Gs_iconst p108_27 ?_
    refine Gs_iret p108_28 rfl ⟨_, rfl, ?_⟩
    refine ⟨?_, rfl⟩
    first | (rw [if_neg (by omega)]; done) | (rw [if_pos (by omega)]; done)
  · refine Gs_aload_n p108_11 rfl rfl ?_
    refine Gs_getR p108_12 (by first | rfl | assumption | exact (show isTale _ from by assumption).1 | exact (show isCamp _ _ from by assumption).1 | exact (show isRow _ _ from by assumption).1) (by rfl) ?_
    refine Gs_iload_n p108_15 rfl rfl ?_
    refine Gs_callV1I p108_16 (by rfl) (by rfl) (by first | rfl | assumption | exact (show isTale _ from by assumption).1 | exact (show isCamp _ _ from by assumption).1 | exact (show isRow _ _ from by assumption).1) (Nat.le_of_ble_eq_true rfl) (by decide) (c_isLine tale5 hT gl) (by omega) ?_
    refine Gs_ifb_eq (tgt := 27) p108_19 (by rfl) (fun h19 => ?_) (fun h19 => ?_)
    · refine Gs_iconst p108_27 ?_
      refine Gs_iret p108_28 rfl ⟨_, rfl, ?_⟩
      refine ⟨?_, rfl⟩
      first | (rw [if_neg (by omega)]; done) | (rw [if_pos (by omega)]; done)
    · refine Gs_iload_n p108_22 rfl rfl ?_
      refine Gs_iconst p108_23 ?_
      refine Gs_icmp_ge (tgt := 29) p108_24 (by rfl) (by first | assumption | exact ⟨by omega, by omega⟩ | (split <;> exact ⟨by omega, by omega⟩)) (by first | assumption | exact ⟨by omega, by omega⟩ | (split <;> exact ⟨by omega, by omega⟩)) (fun h24 => ?_) (fun h24 => ?_)
      · refine Gs_aload_n p108_29 rfl rfl ?_
        refine Gs_getR p108_30 (by first | rfl | assumption | exact (show isTale _ from by assumption).1 | exact (show isCamp _ _ from by assumption).1 | exact (show isRow _ _ from by assumption).1) (by rfl) ?_
        refine Gs_iload_n p108_33 rfl rfl ?_
        refine Gs_callV1I p108_34 (by rfl) (by rfl) (by first | rfl | assumption | exact (show isTale _ from by assumption).1 | exact (show isCamp _ _ from by assumption).1 | exact (show isRow _ _ from by assumption).1) (Nat.le_of_ble_eq_true rfl) (by decide) (c_isIn camp14 hC (by omega) (by omega)) (by omega) ?_
        refine Gs_ifb_ne (tgt := 43) p108_37 (by rfl) (fun h37 => ?_) (fun h37 => ?_)
        · exfalso; omega
        · refine Gs_bipush p108_40 (by decide) ?_
          refine Gs_iret p108_42 rfl ⟨_, rfl, ?_⟩
          refine ⟨?_, rfl⟩
          first | (rw [if_neg (by omega)]; done) | (rw [if_pos (by omega)]; done)
      · refine Gs_iconst p108_27 ?_
        refine Gs_iret p108_28 rfl ⟨_, rfl, ?_⟩
        refine ⟨?_, rfl⟩
        first | (rw [if_neg (by omega)]; done) | (rw [if_pos (by omega)]; done)
