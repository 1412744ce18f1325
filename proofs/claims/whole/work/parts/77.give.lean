/-! give -/
def hlp (R : Int → Int) (V : Int → Int → Int) (n a b w : Int) : Bool := decide (1 ≤ V a (2 + w) ∧ V b (2 + w) < 99) && ((kpA R n.toNat (up1 (fun x => V a (2 + x)) w (V a (2 + w) + -1)) (V a 0) (V a 6) (n.toNat + 1) 0).isSome && (kpA R n.toNat (up1 (fun x => V b (2 + x)) w (V b (2 + w) + 1)) (V b 0) (V b 6) (n.toNat + 1) 0).isSome)
def GFr (s t : St) : Prop := (∀ a z, ¬ (17 ≤ a ∧ a ≤ 19) → ¬ (69 ≤ a ∧ a ≤ 73) → vA t a z = vA s a z) ∧ (∀ a k, ¬ (17 ≤ a ∧ a ≤ 19) → ¬ (69 ≤ a ∧ a ≤ 73) → vF t a k = vF s a k)
theorem GFr.rfl' (s : St) : GFr s s := ⟨fun _ _ _ _ => rfl, fun _ _ _ _ => rfl⟩
theorem GFr.trans {s t u : St} (h : GFr s t) (g : GFr t u) : GFr s u := ⟨fun a z e f => (g.1 a z e f).trans (h.1 a z e f), fun a k e f => (g.2 a k e f).trans (h.2 a k e f)⟩
def gvF (P : Int → Bool) : Nat → Int → Int
  | 0, _ => -4
  | f + 1, w => if P w = true then w else gvF P f (w + 1)
theorem gvF_s {P : Int → Bool} {f : Nat} {w : Int} : gvF P (f + 1) w = if P w = true then w else gvF P f (w + 1) := rfl
theorem gvF_cong {P Q : Int → Bool} (f : Nat) : ∀ w : Int, (∀ v, w ≤ v → v < w + f → P v = Q v) → gvF P f w = gvF Q f w := by
  induction f with
  | zero => intro w _; rfl
  | succ f ih => intro w h; rw [gvF_s, gvF_s, h w (by omega) (by omega), ih (w + 1) (fun v a b => h v (by omega) (by omega))]
theorem movV_a {V : Int → Int → Int} {a b w x : Int} (hab : a ≠ b) (hx : 0 ≤ x) : movV V a b w a (2 + x) = up1 (fun x => V a (2 + x)) w (V a (2 + w) + -1) x := by
  unfold movV
  rw [upV_at, upV_at, up1_at, if_neg (fun q => hab q.1)]
  by_cases e : x = w
  · rw [if_pos ⟨rfl, by omega⟩, if_pos e]; omega
  · rw [if_neg (by omega), if_neg e]
theorem movV_b {V : Int → Int → Int} {a b w x : Int} (hab : a ≠ b) (hx : 0 ≤ x) : movV V a b w b (2 + x) = up1 (fun x => V b (2 + x)) w (V b (2 + w) + 1) x := by
  unfold movV
  rw [upV_at, upV_at, up1_at]
  by_cases e : x = w
  · rw [if_pos ⟨rfl, by omega⟩, if_pos e]
  · rw [if_neg (by omega), if_neg (fun q => hab q.1.symm), if_neg e]
theorem movV_o {V : Int → Int → Int} {a b w k x : Int} (hw : 0 ≤ w) (h3 : w < 4) (hx : x = 0 ∨ x = 6) : movV V a b w k x = V k x := by
  unfold movV
  rw [upV_at, upV_at, if_neg (by omega), if_neg (by omega)]
set_option maxHeartbeats 4000000 in
set_option maxRecDepth 4000 in
theorem c_wouldHelp {X : vX} {s : St} {a b w n nn : Int} (hT : TaleOk s 5) (hC : CampOk s 14 nn) (a0 : 0 ≤ a) (a1 : a < nn) (b0 : 0 ≤ b) (b1 : b < nn) (hab : a ≠ b) (h2 : 0 ≤ w) (h3 : w < 4) (n1 : 1 ≤ n) (n6 : n ≤ 6) : OkI X 31 122 [.ref 0, .int (iI a), .int (iI b), .int (iI w), .int (iI n)] s (fun z t => z = (if hlp (fun x => rnI s 5 (vF s 14 2 + x)) (cv s 14 nn) n a b w = true then 1 else 0) ∧ GFr s t) := by
  refine Ok.of (r := vm_m122) (ls := [some (.ref 0), some (.int (iI a)), some (.int (iI b)), some (.int (iI w)), some (.int (iI n))]) rfl (Nat.le_of_ble_eq_true rfl) rfl (fun d hd => ?_)
  have v1 : cv s 14 nn a (2 + w) = cg s 14 a (2 + w) := cv_at a0 a1 (by omega) (by omega)
  have v2 : cv s 14 nn b (2 + w) = cg s 14 b (2 + w) := cv_at b0 b1 (by omega) (by omega)
  have T0 := cp17_cv (s := s) hC
  have t1 : cg (cpC s 17 14) 17 a (2 + w) = cg s 14 a (2 + w) := by rw [T0.at a0 a1 (by omega) (by omega), v1]
  have t2 : cg (cpC s 17 14) 17 b (2 + w) = cg s 14 b (2 + w) := by rw [T0.at b0 b1 (by omega) (by omega), v2]
  refine Gs_aload_n p122_0 rfl rfl ?_
  refine Gs_getR p122_1 (by first | rfl | assumption | exact (show isTale _ from by assumption).1 | exact (show isCamp _ _ from by assumption).1 | exact (show isRow _ _ from by assumption).1) (by rfl) ?_
  refine Gs_iload_n p122_4 rfl rfl ?_
  refine Gs_iload_n p122_5 rfl rfl ?_
  refine Gs_iload_n p122_6 rfl rfl ?_
  refine Gs_callV3I p122_7 (by rfl) (by rfl) (by first | rfl | assumption | exact (show isTale _ from by assumption).1 | exact (show isCamp _ _ from by assumption).1 | exact (show isRow _ _ from by assumption).1) (Nat.le_of_ble_eq_true rfl) (by decide) (c_canMove camp14 hC a0 a1 b0 b1 h2 h3) (by omega) ?_
  refine Gs_ifb_ne (tgt := 15) p122_10 (by rfl) (fun h10 => ?_) (fun h10 => ?_)
  · refine Gs_aload_n p122_15 rfl rfl ?_
    refine Gs_getR p122_16 (by first | rfl | assumption | exact (show isTale _ from by assumption).1 | exact (show isCamp _ _ from by assumption).1 | exact (show isRow _ _ from by assumption).1) (by rfl) ?_
    refine Gs_aload_n p122_19 rfl rfl ?_
    refine Gs_getR p122_20 (by first | rfl | assumption | exact (show isTale _ from by assumption).1 | exact (show isCamp _ _ from by assumption).1 | exact (show isRow _ _ from by assumption).1) (by rfl) ?_
    refine Gs_callV1W p122_23 (by rfl) (by rfl) (by first | rfl | assumption | exact (show isTale _ from by assumption).1 | exact (show isCamp _ _ from by assumption).1 | exact (show isRow _ _ from by assumption).1) (Nat.le_of_ble_eq_true rfl) (by decide) (c_Cbecome camp17 camp14 hC (by decide) (by decide) (by decide) (by decide)) (by omega) ?_
    refine Gs_aload_n p122_26 rfl rfl ?_
    refine Gs_getR p122_27 (by first | rfl | assumption | exact (show isTale _ from by assumption).1 | exact (show isCamp _ _ from by assumption).1 | exact (show isRow _ _ from by assumption).1) (by rfl) ?_
    refine Gs_iload_n p122_30 rfl rfl ?_
    refine Gs_iload_n p122_31 rfl rfl ?_
    refine Gs_iload_n p122_32 rfl rfl ?_
    refine Gs_callV3v p122_33 (by rfl) (by rfl) (by rfl) (Nat.le_of_ble_eq_true rfl) (by decide) (c_move camp17 T0.2.2.2.2 a0 a1 b0 b1 h2 h3 hab (by rw [t1]; omega) (by rw [t2]; omega)) (by omega) (fun s33 h33 => ?_)
    have P := COp.trans (cp17_cv hC) (by rw [(cp17_cv (s := s) hC).1, show vF (cpC s 17 14) 17 2 = vF s 14 2 from rfl] at h33; exact h33)
    have eT : ∀ a z, a ≠ 19 → vA s33 a z = vA s a z := fun a z h => (P.2.1 a z h).trans (cp17_A h z)
    have eF : ∀ a k, ¬ (a = 17 ∧ k = 2) → ¬ (a = 18 ∧ k = 1) → vF s33 a k = vF s a k := fun a k h g => (P.2.2.1 a k h).trans (cp17_F h g)
    have hT3 : TaleOk s33 5 := hT.cong (eF _ _ (by omega) (by omega)) (eF _ _ (by omega) (by omega)) (eF _ _ (by omega) (by omega)) (fun z => eT _ z (by omega)) (fun z => eT _ z (by omega))
    have eR : (fun x => rnI s33 5 (vF s33 17 2 + x)) = (fun x => rnI s 5 (vF s 14 2 + x)) := funext (fun x => by rw [P.2.2.2.1, rnI_cong (u := 5) (eF _ _ (by omega) (by omega)) (fun z => eT _ z (by omega))])
    have GP : GFr s s33 := ⟨fun a z h _ => eT a z (by omega), fun a k h _ => eF a k (by omega) (by omega)⟩
    have FA := c_kfewest (X := X) camp17 (by decide) hT3 P.2.2.2.2 a0 a1 n1 n6
    rw [eR, P.at a0 a1 (by omega) (by omega), P.at a0 a1 (by omega) (by omega), movV_o h2 h3 (Or.inl rfl), movV_o h2 h3 (Or.inr rfl), kpA_cong (lg' := up1 (fun x => cv s 14 nn a (2 + x)) w (cv s 14 nn a (2 + w) + -1)) (fun x x0 x1 => by show cg s33 17 a (2 + x) = _; rw [P.at a0 a1 (by omega) (by omega), movV_a hab x0])] at FA
    refine Gs_aload_n p122_36 rfl rfl ?_
    refine Gs_getR p122_37 (by first | rfl | assumption | exact (show isTale _ from by assumption).1 | exact (show isCamp _ _ from by assumption).1 | exact (show isRow _ _ from by assumption).1) (by rfl) ?_
    refine Gs_aload_n p122_40 rfl rfl ?_
    refine Gs_getR p122_41 (by first | rfl | assumption | exact (show isTale _ from by assumption).1 | exact (show isCamp _ _ from by assumption).1 | exact (show isRow _ _ from by assumption).1) (by rfl) ?_
    refine Gs_iload_n p122_44 rfl rfl ?_
    refine Gs_iload p122_45 rfl rfl ?_
    refine Gs_callV3i p122_47 (by rfl) (by rfl) (by rfl) (Nat.le_of_ble_eq_true rfl) (by decide) (FA) (by omega) (fun z47 s47 h47 => ?_)
    have QT : ∀ a z, a < 69 ∨ 74 ≤ a → vA s47 a z = vA s33 a z := h47.1.1
    have QF : ∀ a k, a < 69 ∨ 74 ≤ a → vF s47 a k = vF s33 a k := h47.1.2
    have hT4 : TaleOk s47 5 := hT3.cong (QF _ _ (by omega)) (QF _ _ (by omega)) (QF _ _ (by omega)) (fun z => QT _ z (by omega)) (fun z => QT _ z (by omega))
    have hC4 : CampOk s47 17 nn := P.2.2.2.2.cong (QF _ _ (by omega)) (QF _ _ (by omega)) (fun z => QT _ z (by omega))
    have eR4 : (fun x => rnI s47 5 (vF s47 17 2 + x)) = (fun x => rnI s 5 (vF s 14 2 + x)) := by rw [← eR]; exact funext (fun x => by rw [QF _ _ (by omega), rnI_cong (u := 5) (QF _ _ (by omega)) (fun z => QT _ z (by omega))])
    have cg4 : ∀ w', cg s47 17 b w' = cg s33 17 b w' := fun w' => QT 19 _ (by omega)
    have FB := c_kfewest (X := X) camp17 (by decide) hT4 hC4 b0 b1 n1 n6
    rw [eR4, cg4, cg4, P.at b0 b1 (by omega) (by omega), P.at b0 b1 (by omega) (by omega), movV_o h2 h3 (Or.inl rfl), movV_o h2 h3 (Or.inr rfl), kpA_cong (lg' := up1 (fun x => cv s 14 nn b (2 + x)) w (cv s 14 nn b (2 + w) + 1)) (fun x x0 x1 => by show cg s47 17 b (2 + x) = _; rw [cg4, P.at b0 b1 (by omega) (by omega), movV_b hab x0])] at FB
    have za := h47.b n6
    have GP4 : GFr s s47 := GP.trans ⟨fun a z _ h => QT a z (by omega), fun a k _ h => QF a k (by omega)⟩
    refine Gs_bipush p122_50 (by decide) ?_
    refine Gs_icmp_eq (tgt := 78) p122_52 (by rfl) (by first | assumption | exact ⟨by omega, by omega⟩ | (split <;> exact ⟨by omega, by omega⟩)) (by first | assumption | exact ⟨by omega, by omega⟩ | (split <;> exact ⟨by omega, by omega⟩)) (fun h52 => ?_) (fun h52 => ?_)
    · refine Gs_iconst p122_78 ?_
      refine Gs_zret p122_79 rfl (by first | exact Or.inl rfl | exact Or.inr rfl | (split <;> first | exact Or.inl rfl | exact Or.inr rfl)) ⟨_, rfl, ?_⟩
      unfold hlp
      first
        | (rw [decide_eq_false (show ¬ (1 ≤ cv s 14 nn a (2 + w) ∧ cv s 14 nn b (2 + w) < 99) by rw [v1, v2]; omega)]; exact ⟨rfl, GFr.rfl' _⟩)
        | (rw [decide_eq_true (show 1 ≤ cv s 14 nn a (2 + w) ∧ cv s 14 nn b (2 + w) < 99 by rw [v1, v2]; omega), h47.is.mp (by omega)]; exact ⟨rfl, GP4⟩)
        | (have sa : (kpA (fun x => rnI s 5 (vF s 14 2 + x)) n.toNat (up1 (fun x => cv s 14 nn a (2 + x)) w (cv s 14 nn a (2 + w) + -1)) (cv s 14 nn a 0) (cv s 14 nn a 6) (n.toNat + 1) 0).isSome = true := by
             cases e : (kpA (fun x => rnI s 5 (vF s 14 2 + x)) n.toNat (up1 (fun x => cv s 14 nn a (2 + x)) w (cv s 14 nn a (2 + w) + -1)) (cv s 14 nn a 0) (cv s 14 nn a 6) (n.toNat + 1) 0).isSome with
             | true => rfl
             | false => exact absurd (h47.is.mpr e) (by omega)
           rw [decide_eq_true (show 1 ≤ cv s 14 nn a (2 + w) ∧ cv s 14 nn b (2 + w) < 99 by rw [v1, v2]; omega), sa]
           first
           | (rw [h66.is.mp (by omega)]; exact ⟨rfl, GP4.trans ⟨fun a z _ h => h66.1.1 a z (by omega), fun a k _ h => h66.1.2 a k (by omega)⟩⟩)
           | (have sb : (kpA (fun x => rnI s 5 (vF s 14 2 + x)) n.toNat (up1 (fun x => cv s 14 nn b (2 + x)) w (cv s 14 nn b (2 + w) + 1)) (cv s 14 nn b 0) (cv s 14 nn b 6) (n.toNat + 1) 0).isSome = true := by
                cases e : (kpA (fun x => rnI s 5 (vF s 14 2 + x)) n.toNat (up1 (fun x => cv s 14 nn b (2 + x)) w (cv s 14 nn b (2 + w) + 1)) (cv s 14 nn b 0) (cv s 14 nn b 6) (n.toNat + 1) 0).isSome with
                | true => rfl
                | false => exact absurd (h66.is.mpr e) (by omega)
              rw [sb]; exact ⟨rfl, GP4.trans ⟨fun a z _ h => h66.1.1 a z (by omega), fun a k _ h => h66.1.2 a k (by omega)⟩⟩))
    · refine Gs_aload_n p122_55 rfl rfl ?_
      refine Gs_getR p122_56 (by first | rfl | assumption | exact (show isTale _ from by assumption).1 | exact (show isCamp _ _ from by assumption).1 | exact (show isRow _ _ from by assumption).1) (by rfl) ?_
      refine Gs_aload_n p122_59 rfl rfl ?_
      refine Gs_getR p122_60 (by first | rfl | assumption | exact (show isTale _ from by assumption).1 | exact (show isCamp _ _ from by assumption).1 | exact (show isRow _ _ from by assumption).1) (by rfl) ?_
      refine Gs_iload_n p122_63 rfl rfl ?_
      refine Gs_iload p122_64 rfl rfl ?_
      refine Gs_callV3i p122_66 (by rfl) (by rfl) (by rfl) (Nat.le_of_ble_eq_true rfl) (by decide) (FB) (by omega) (fun z66 s66 h66 => ?_)
      have zb := h66.b n6
      refine Gs_bipush p122_69 (by decide) ?_
      refine Gs_icmp_eq (tgt := 78) p122_71 (by rfl) (by first | assumption | exact ⟨by omega, by omega⟩ | (split <;> exact ⟨by omega, by omega⟩)) (by first | assumption | exact ⟨by omega, by omega⟩ | (split <;> exact ⟨by omega, by omega⟩)) (fun h71 => ?_) (fun h71 => ?_)
      · refine Gs_iconst p122_78 ?_
        refine Gs_zret p122_79 rfl (by first | exact Or.inl rfl | exact Or.inr rfl | (split <;> first | exact Or.inl rfl | exact Or.inr rfl)) ⟨_, rfl, ?_⟩
        unfold hlp
        first
          | (rw [decide_eq_false (show ¬ (1 ≤ cv s 14 nn a (2 + w) ∧ cv s 14 nn b (2 + w) < 99) by rw [v1, v2]; omega)]; exact ⟨rfl, GFr.rfl' _⟩)
          | (rw [decide_eq_true (show 1 ≤ cv s 14 nn a (2 + w) ∧ cv s 14 nn b (2 + w) < 99 by rw [v1, v2]; omega), h47.is.mp (by omega)]; exact ⟨rfl, GP4⟩)
          | (have sa : (kpA (fun x => rnI s 5 (vF s 14 2 + x)) n.toNat (up1 (fun x => cv s 14 nn a (2 + x)) w (cv s 14 nn a (2 + w) + -1)) (cv s 14 nn a 0) (cv s 14 nn a 6) (n.toNat + 1) 0).isSome = true := by
               cases e : (kpA (fun x => rnI s 5 (vF s 14 2 + x)) n.toNat (up1 (fun x => cv s 14 nn a (2 + x)) w (cv s 14 nn a (2 + w) + -1)) (cv s 14 nn a 0) (cv s 14 nn a 6) (n.toNat + 1) 0).isSome with
               | true => rfl
               | false => exact absurd (h47.is.mpr e) (by omega)
             rw [decide_eq_true (show 1 ≤ cv s 14 nn a (2 + w) ∧ cv s 14 nn b (2 + w) < 99 by rw [v1, v2]; omega), sa]
             first
             | (rw [h66.is.mp (by omega)]; exact ⟨rfl, GP4.trans ⟨fun a z _ h => h66.1.1 a z (by omega), fun a k _ h => h66.1.2 a k (by omega)⟩⟩)
             | (have sb : (kpA (fun x => rnI s 5 (vF s 14 2 + x)) n.toNat (up1 (fun x => cv s 14 nn b (2 + x)) w (cv s 14 nn b (2 + w) + 1)) (cv s 14 nn b 0) (cv s 14 nn b 6) (n.toNat + 1) 0).isSome = true := by
                  cases e : (kpA (fun x => rnI s 5 (vF s 14 2 + x)) n.toNat (up1 (fun x => cv s 14 nn b (2 + x)) w (cv s 14 nn b (2 + w) + 1)) (cv s 14 nn b 0) (cv s 14 nn b 6) (n.toNat + 1) 0).isSome with
                  | true => rfl
                  | false => exact absurd (h66.is.mpr e) (by omega)
                rw [sb]; exact ⟨rfl, GP4.trans ⟨fun a z _ h => h66.1.1 a z (by omega), fun a k _ h => h66.1.2 a k (by omega)⟩⟩))
      · refine Gs_iconst p122_74 ?_
        refine Gs_goto (tgt := 79) p122_75 (by rfl) ?_
        refine Gs_zret p122_79 rfl (by first | exact Or.inl rfl | exact Or.inr rfl | (split <;> first | exact Or.inl rfl | exact Or.inr rfl)) ⟨_, rfl, ?_⟩
        unfold hlp
        first
          | (rw [decide_eq_false (show ¬ (1 ≤ cv s 14 nn a (2 + w) ∧ cv s 14 nn b (2 + w) < 99) by rw [v1, v2]; omega)]; exact ⟨rfl, GFr.rfl' _⟩)
          | (rw [decide_eq_true (show 1 ≤ cv s 14 nn a (2 + w) ∧ cv s 14 nn b (2 + w) < 99 by rw [v1, v2]; omega), h47.is.mp (by omega)]; exact ⟨rfl, GP4⟩)
          | (have sa : (kpA (fun x => rnI s 5 (vF s 14 2 + x)) n.toNat (up1 (fun x => cv s 14 nn a (2 + x)) w (cv s 14 nn a (2 + w) + -1)) (cv s 14 nn a 0) (cv s 14 nn a 6) (n.toNat + 1) 0).isSome = true := by
               cases e : (kpA (fun x => rnI s 5 (vF s 14 2 + x)) n.toNat (up1 (fun x => cv s 14 nn a (2 + x)) w (cv s 14 nn a (2 + w) + -1)) (cv s 14 nn a 0) (cv s 14 nn a 6) (n.toNat + 1) 0).isSome with
               | true => rfl
               | false => exact absurd (h47.is.mpr e) (by omega)
             rw [decide_eq_true (show 1 ≤ cv s 14 nn a (2 + w) ∧ cv s 14 nn b (2 + w) < 99 by rw [v1, v2]; omega), sa]
             first
             | (rw [h66.is.mp (by omega)]; exact ⟨rfl, GP4.trans ⟨fun a z _ h => h66.1.1 a z (by omega), fun a k _ h => h66.1.2 a k (by omega)⟩⟩)
             | (have sb : (kpA (fun x => rnI s 5 (vF s 14 2 + x)) n.toNat (up1 (fun x => cv s 14 nn b (2 + x)) w (cv s 14 nn b (2 + w) + 1)) (cv s 14 nn b 0) (cv s 14 nn b 6) (n.toNat + 1) 0).isSome = true := by
                  cases e : (kpA (fun x => rnI s 5 (vF s 14 2 + x)) n.toNat (up1 (fun x => cv s 14 nn b (2 + x)) w (cv s 14 nn b (2 + w) + 1)) (cv s 14 nn b 0) (cv s 14 nn b 6) (n.toNat + 1) 0).isSome with
                  | true => rfl
                  | false => exact absurd (h66.is.mpr e) (by omega)
                rw [sb]; exact ⟨rfl, GP4.trans ⟨fun a z _ h => h66.1.1 a z (by omega), fun a k _ h => h66.1.2 a k (by omega)⟩⟩))
  · refine Gs_iconst p122_13 ?_
    refine Gs_zret p122_14 rfl (by first | exact Or.inl rfl | exact Or.inr rfl | (split <;> first | exact Or.inl rfl | exact Or.inr rfl)) ⟨_, rfl, ?_⟩
    unfold hlp
    first
      | (rw [decide_eq_false (show ¬ (1 ≤ cv s 14 nn a (2 + w) ∧ cv s 14 nn b (2 + w) < 99) by rw [v1, v2]; omega)]; exact ⟨rfl, GFr.rfl' _⟩)
      | (rw [decide_eq_true (show 1 ≤ cv s 14 nn a (2 + w) ∧ cv s 14 nn b (2 + w) < 99 by rw [v1, v2]; omega), h47.is.mp (by omega)]; exact ⟨rfl, GP4⟩)
      | (have sa : (kpA (fun x => rnI s 5 (vF s 14 2 + x)) n.toNat (up1 (fun x => cv s 14 nn a (2 + x)) w (cv s 14 nn a (2 + w) + -1)) (cv s 14 nn a 0) (cv s 14 nn a 6) (n.toNat + 1) 0).isSome = true := by
           cases e : (kpA (fun x => rnI s 5 (vF s 14 2 + x)) n.toNat (up1 (fun x => cv s 14 nn a (2 + x)) w (cv s 14 nn a (2 + w) + -1)) (cv s 14 nn a 0) (cv s 14 nn a 6) (n.toNat + 1) 0).isSome with
           | true => rfl
           | false => exact absurd (h47.is.mpr e) (by omega)
         rw [decide_eq_true (show 1 ≤ cv s 14 nn a (2 + w) ∧ cv s 14 nn b (2 + w) < 99 by rw [v1, v2]; omega), sa]
         first
         | (rw [h66.is.mp (by omega)]; exact ⟨rfl, GP4.trans ⟨fun a z _ h => h66.1.1 a z (by omega), fun a k _ h => h66.1.2 a k (by omega)⟩⟩)
         | (have sb : (kpA (fun x => rnI s 5 (vF s 14 2 + x)) n.toNat (up1 (fun x => cv s 14 nn b (2 + x)) w (cv s 14 nn b (2 + w) + 1)) (cv s 14 nn b 0) (cv s 14 nn b 6) (n.toNat + 1) 0).isSome = true := by
              cases e : (kpA (fun x => rnI s 5 (vF s 14 2 + x)) n.toNat (up1 (fun x => cv s 14 nn b (2 + x)) w (cv s 14 nn b (2 + w) + 1)) (cv s 14 nn b 0) (cv s 14 nn b 6) (n.toNat + 1) 0).isSome with
              | true => rfl
              | false => exact absurd (h66.is.mpr e) (by omega)
            rw [sb]; exact ⟨rfl, GP4.trans ⟨fun a z _ h => h66.1.1 a z (by omega), fun a k _ h => h66.1.2 a k (by omega)⟩⟩))

theorem hlp_cong {R : Int → Int} {V W : Int → Int → Int} {n a b w : Int} (h : V = W) : hlp R V n a b w = hlp R W n a b w := by rw [h]
set_option maxHeartbeats 1000000 in
set_option maxRecDepth 4000 in
theorem k_give {X : vX} {s : St} {a b n nn : Int} (hT : TaleOk s 5) (hC : CampOk s 14 nn) (a0 : 0 ≤ a) (a1 : a < nn) (b0 : 0 ≤ b) (b1 : b < nn) (hab : a ≠ b) (n1 : 1 ≤ n) (n6 : n ≤ 6) (c1 : 1 ≤ cg s 14 a 0) (c2 : 1 ≤ cg s 14 b 0) : OkI X 33 111 [.ref 0, .int (iI a), .int (iI b), .int (iI n)] s (fun z t => z = gvF (fun w => hlp (fun x => rnI s 5 (vF s 14 2 + x)) (cv s 14 nn) n a b w) 4 0 ∧ GFr s t) := by
  refine Ok.of (r := vm_m111) (ls := [some (.ref 0), some (.int (iI a)), some (.int (iI b)), some (.int (iI n)), none]) rfl (Nat.le_of_ble_eq_true rfl) rfl (fun d hd => ?_)
  have n4 := hC.2.1
  generalize hA : gvF (fun w => hlp (fun x => rnI s 5 (vF s 14 2 + x)) (cv s 14 nn) n a b w) 4 0 = A
  refine Gs_aload_n p111_0 rfl rfl ?_
  refine Gs_iload_n p111_1 rfl rfl ?_
  refine Gs_iload_n p111_2 rfl rfl ?_
  refine Gs_callV2I p111_3 (by rfl) (by rfl) (by first | rfl | assumption | exact (show isTale _ from by assumption).1 | exact (show isCamp _ _ from by assumption).1 | exact (show isRow _ _ from by assumption).1) (Nat.le_of_ble_eq_true rfl) (by decide) (c_areTwo hC ⟨by omega, by omega⟩ ⟨by omega, by omega⟩) (by omega) ?_
  refine Gs_ifb_eq (tgt := 19) p111_6 (by rfl) (fun h6 => ?_) (fun h6 => ?_)
  · refine Gs_iconst p111_19 ?_
    refine Gs_iret p111_20 rfl ⟨_, rfl, ?_⟩
    exfalso; omega
  · refine Gs_iload_n p111_9 rfl rfl ?_
    refine Gs_iconst p111_10 ?_
    refine Gs_bipush p111_11 (by decide) ?_
    refine Gs_callS3I p111_13 (by rfl) (Nat.le_of_ble_eq_true rfl) (by decide) (c_within ⟨by omega, by omega⟩ ⟨by omega, by omega⟩ ⟨by omega, by omega⟩) (by omega) ?_
    refine Gs_ifb_ne (tgt := 21) p111_16 (by rfl) (fun h16 => ?_) (fun h16 => ?_)
    · refine Gs_aload_n p111_21 rfl rfl ?_
      refine Gs_getR p111_22 (by first | rfl | assumption | exact (show isTale _ from by assumption).1 | exact (show isCamp _ _ from by assumption).1 | exact (show isRow _ _ from by assumption).1) (by rfl) ?_
      refine Gs_iload_n p111_25 rfl rfl ?_
      refine Gs_callV1I p111_26 (by rfl) (by rfl) (by first | rfl | assumption | exact (show isTale _ from by assumption).1 | exact (show isCamp _ _ from by assumption).1 | exact (show isRow _ _ from by assumption).1) (Nat.le_of_ble_eq_true rfl) (by decide) (c_isIn camp14 hC a0 a1) (by omega) ?_
      refine Gs_ifb_eq (tgt := 43) p111_29 (by rfl) (fun h29 => ?_) (fun h29 => ?_)
      · refine Gs_bipush p111_43 (by decide) ?_
        refine Gs_iret p111_45 rfl ⟨_, rfl, ?_⟩
        exfalso; omega
      · refine Gs_aload_n p111_32 rfl rfl ?_
        refine Gs_getR p111_33 (by first | rfl | assumption | exact (show isTale _ from by assumption).1 | exact (show isCamp _ _ from by assumption).1 | exact (show isRow _ _ from by assumption).1) (by rfl) ?_
        refine Gs_iload_n p111_36 rfl rfl ?_
        refine Gs_callV1I p111_37 (by rfl) (by rfl) (by first | rfl | assumption | exact (show isTale _ from by assumption).1 | exact (show isCamp _ _ from by assumption).1 | exact (show isRow _ _ from by assumption).1) (Nat.le_of_ble_eq_true rfl) (by decide) (c_isIn camp14 hC b0 b1) (by omega) ?_
        refine Gs_ifb_ne (tgt := 46) p111_40 (by rfl) (fun h40 => ?_) (fun h40 => ?_)
        · refine Gs_iconst p111_46 ?_
          refine Gs_ist4 p111_47 (by first | rfl | assumption) ?_
          refine dn (n := (4 : Int)) (P := fun i => ∀ y, GFr s y → gvF (fun w => hlp (fun x => rnI s 5 (vF s 14 2 + x)) (cv s 14 nn) n a b w) (4 - i).toNat i = A → Gs X d 111 49 [some (.ref 0), some (.int (iI a)), some (.int (iI b)), some (.int (iI n)), some (.int (iI i))] [] (y) (fun vv yy => ∃ zz : Int, vv = some (.int (iI zz)) ∧ (fun z t => z = A ∧ GFr s t) zz yy)) (by omega) (fun i hi hin ih => ?_) ?_ s (GFr.rfl' s) hA
          · show ∀ y, GFr s y → gvF (fun w => hlp (fun x => rnI s 5 (vF s 14 2 + x)) (cv s 14 nn) n a b w) (4 - i).toNat i = A → Gs X d 111 49 [some (.ref 0), some (.int (iI a)), some (.int (iI b)), some (.int (iI n)), some (.int (iI i))] [] (y) _
            intro y o e
            rw [show (4 - i).toNat = (4 - (i + 1)).toNat + 1 by omega, gvF_s] at e
            have fC : CampOk y 14 nn := hC.cong (o.2 _ _ (by decide) (by decide)) (o.2 _ _ (by decide) (by decide)) (fun z => o.1 _ z (by decide) (by decide))
            have fT : TaleOk y 5 := hT.cong (o.2 _ _ (by decide) (by decide)) (o.2 _ _ (by decide) (by decide)) (o.2 _ _ (by decide) (by decide)) (fun z => o.1 _ z (by decide) (by decide)) (fun z => o.1 _ z (by decide) (by decide))
            have B := c_wouldHelp (X := X) fT fC a0 a1 b0 b1 hab hi hin n1 n6
            rw [show cv y 14 nn = cv s 14 nn from cv_cong (fun z => o.1 _ z (by decide) (by decide)) nn, show (fun x => rnI y 5 (vF y 14 2 + x)) = (fun x => rnI s 5 (vF s 14 2 + x)) from funext (fun x => by rw [o.2 _ _ (by decide) (by decide), rnI_cong (u := 5) (o.2 _ _ (by decide) (by decide)) (fun z => o.1 _ z (by decide) (by decide))])] at B
            refine Gs_iload p111_49 rfl rfl ?_
            refine Gs_iconst p111_51 ?_
            refine Gs_icmp_ge (tgt := 76) p111_52 (by rfl) (by first | assumption | exact ⟨by omega, by omega⟩ | (split <;> exact ⟨by omega, by omega⟩)) (by first | assumption | exact ⟨by omega, by omega⟩ | (split <;> exact ⟨by omega, by omega⟩)) (fun hc52 => absurd ‹_› (by first | omega | assumption)) (fun hc52 => ?_)
            refine Gs_aload_n p111_55 rfl rfl ?_
            refine Gs_iload_n p111_56 rfl rfl ?_
            refine Gs_iload_n p111_57 rfl rfl ?_
            refine Gs_iload p111_58 rfl rfl ?_
            refine Gs_iload_n p111_60 rfl rfl ?_
            refine Gs_callV4i p111_61 (by rfl) (by rfl) (by rfl) (Nat.le_of_ble_eq_true rfl) (by decide) (B) (by omega) (fun z61 s61 h61 => ?_)
            rw [h61.1]
            refine Gs_ifb_eq (tgt := 70) p111_64 (by rfl) (fun h64 => ?_) (fun h64 => ?_)
            · refine Gs_iinc4 (b54 := none) p111_70 (by first | rfl | assumption) ?_
              refine Gs_goto (tgt := 49) p111_73 (by rfl) ?_
              rw [if_neg h64] at e
              exact ih _ (o.trans h61.2) e
            · refine Gs_iload p111_67 rfl rfl ?_
              refine Gs_iret p111_69 rfl ⟨_, rfl, ?_⟩
              rw [if_pos h64] at e
              exact ⟨e, o.trans h61.2⟩
          · show ∀ y, GFr s y → gvF (fun w => hlp (fun x => rnI s 5 (vF s 14 2 + x)) (cv s 14 nn) n a b w) (4 - ((4 : Int))).toNat ((4 : Int)) = A → Gs X d 111 49 [some (.ref 0), some (.int (iI a)), some (.int (iI b)), some (.int (iI n)), some (.int (iI ((4 : Int))))] [] (y) _
            intro y o e
            refine Gs_iload p111_49 rfl rfl ?_
            refine Gs_iconst p111_51 ?_
            refine Gs_icmp_ge (tgt := 76) p111_52 (by rfl) (by first | assumption | exact ⟨by omega, by omega⟩ | (split <;> exact ⟨by omega, by omega⟩)) (by first | assumption | exact ⟨by omega, by omega⟩ | (split <;> exact ⟨by omega, by omega⟩)) (fun hc52 => ?_) (fun hc52 => absurd ‹_› (by first | omega | assumption))
            refine Gs_bipush p111_76 (by decide) ?_
            refine Gs_iret p111_78 rfl ⟨_, rfl, ?_⟩
            have e : -4 = A := e
            exact ⟨e, o⟩
        · refine Gs_bipush p111_43 (by decide) ?_
          refine Gs_iret p111_45 rfl ⟨_, rfl, ?_⟩
          exfalso; omega
    · refine Gs_iconst p111_19 ?_
      refine Gs_iret p111_20 rfl ⟨_, rfl, ?_⟩
      exfalso; omega

set_option maxHeartbeats 1000000 in
set_option maxRecDepth 4000 in
theorem k_give_no {X : vX} {s : St} {a b n nn : Int} (hC : CampOk s 14 nn) (ga : rg a) (gb : rg b) (gn : rg n) (hno : ¬ ((((0 ≤ a ∧ a < nn) ∧ (0 ≤ b ∧ b < nn) ∧ a ≠ b) ∧ (1 ≤ n ∧ n ≤ 6)) ∧ (1 ≤ cg s 14 a 0 ∧ 1 ≤ cg s 14 b 0))) : OkI X 33 111 [.ref 0, .int (iI a), .int (iI b), .int (iI n)] s (Is1 (if ((0 ≤ a ∧ a < nn) ∧ (0 ≤ b ∧ b < nn) ∧ a ≠ b) ∧ (1 ≤ n ∧ n ≤ 6) then -2 else -1) s) := by
  refine Ok.of (r := vm_m111) (ls := [some (.ref 0), some (.int (iI a)), some (.int (iI b)), some (.int (iI n)), none]) rfl (Nat.le_of_ble_eq_true rfl) rfl (fun d hd => ?_)
  refine Gs_aload_n p111_0 rfl rfl ?_
  refine Gs_iload_n p111_1 rfl rfl ?_
  refine Gs_iload_n p111_2 rfl rfl ?_
  refine Gs_callV2I p111_3 (by rfl) (by rfl) (by first | rfl | assumption | exact (show isTale _ from by assumption).1 | exact (show isCamp _ _ from by assumption).1 | exact (show isRow _ _ from by assumption).1) (Nat.le_of_ble_eq_true rfl) (by decide) (c_areTwo hC ga gb) (by omega) ?_
  refine Gs_ifb_eq (tgt := 19) p111_6 (by rfl) (fun h6 => ?_) (fun h6 => ?_)
  · refine Gs_iconst p111_19 ?_
    refine Gs_iret p111_20 rfl ⟨_, rfl, ?_⟩
    refine ⟨?_, rfl⟩
    first | (rw [if_neg (by omega)]; done) | (rw [if_pos (by omega)]; done)
  · refine Gs_iload_n p111_9 rfl rfl ?_
    refine Gs_iconst p111_10 ?_
    refine Gs_bipush p111_11 (by decide) ?_
    refine Gs_callS3I p111_13 (by rfl) (Nat.le_of_ble_eq_true rfl) (by decide) (c_within gn ⟨by omega, by omega⟩ ⟨by omega, by omega⟩) (by omega) ?_
    refine Gs_ifb_ne (tgt := 21) p111_16 (by rfl) (fun h16 => ?_) (fun h16 => ?_)
    · refine Gs_aload_n p111_21 rfl rfl ?_
      refine Gs_getR p111_22 (by first | rfl | assumption | exact (show isTale _ from by assumption).1 | exact (show isCamp _ _ from by assumption).1 | exact (show isRow _ _ from by assumption).1) (by rfl) ?_
      refine Gs_iload_n p111_25 rfl rfl ?_
      refine Gs_callV1I p111_26 (by rfl) (by rfl) (by first | rfl | assumption | exact (show isTale _ from by assumption).1 | exact (show isCamp _ _ from by assumption).1 | exact (show isRow _ _ from by assumption).1) (Nat.le_of_ble_eq_true rfl) (by decide) (c_isIn camp14 hC (by omega) (by omega)) (by omega) ?_
      refine Gs_ifb_eq (tgt := 43) p111_29 (by rfl) (fun h29 => ?_) (fun h29 => ?_)
      · refine Gs_bipush p111_43 (by decide) ?_
        refine Gs_iret p111_45 rfl ⟨_, rfl, ?_⟩
        refine ⟨?_, rfl⟩
        first | (rw [if_neg (by omega)]; done) | (rw [if_pos (by omega)]; done)
      · refine Gs_aload_n p111_32 rfl rfl ?_
        refine Gs_getR p111_33 (by first | rfl | assumption | exact (show isTale _ from by assumption).1 | exact (show isCamp _ _ from by assumption).1 | exact (show isRow _ _ from by assumption).1) (by rfl) ?_
        refine Gs_iload_n p111_36 rfl rfl ?_
        refine Gs_callV1I p111_37 (by rfl) (by rfl) (by first | rfl | assumption | exact (show isTale _ from by assumption).1 | exact (show isCamp _ _ from by assumption).1 | exact (show isRow _ _ from by assumption).1) (Nat.le_of_ble_eq_true rfl) (by decide) (c_isIn camp14 hC (by omega) (by omega)) (by omega) ?_
        refine Gs_ifb_ne (tgt := 46) p111_40 (by rfl) (fun h40 => ?_) (fun h40 => ?_)
        · exfalso; omega
        · refine Gs_bipush p111_43 (by decide) ?_
          refine Gs_iret p111_45 rfl ⟨_, rfl, ?_⟩
          refine ⟨?_, rfl⟩
          first | (rw [if_neg (by omega)]; done) | (rw [if_pos (by omega)]; done)
    · refine Gs_iconst p111_19 ?_
      refine Gs_iret p111_20 rfl ⟨_, rfl, ?_⟩
      refine ⟨?_, rfl⟩
      first | (rw [if_neg (by omega)]; done) | (rw [if_pos (by omega)]; done)

def NFr (s t : St) : Prop := (∀ a z, a ≠ 104 → a ≠ 105 → a ≠ 106 → vA t a z = vA s a z) ∧ (∀ a f, vF t a f = vF s a f)
theorem NFr.rfl' (s : St) : NFr s s := ⟨fun _ _ _ _ _ => rfl, fun _ _ => rfl⟩
theorem NFr.trans {s t u : St} (h : NFr s t) (g : NFr t u) : NFr s u := ⟨fun a z e f x => (g.1 a z e f x).trans (h.1 a z e f x), fun a f => (g.2 a f).trans (h.2 a f)⟩
set_option maxHeartbeats 1000000 in
set_option maxRecDepth 4000 in
theorem c_isKeptWith {X : vX} {s : St} {c n w m : Int} (hT : MT s) (hm : MC s 98 (vA s 96 2)) (c0 : 0 ≤ c) (c1 : c < vA s 96 2) (n1 : 1 ≤ n) (n6 : n ≤ 6) (h2 : 0 ≤ w) (h3 : w < 4) (c2 : 0 < vA s 98 c) (gm : -1 ≤ m ∧ m ≤ 1) (g0 : 0 ≤ vA s 98 (8 + 4 * c + w) + m) : OkI X 4 188 [.ref 95, .int (iI c), .int (iI n), .int (iI w), .int (iI m)] s (fun z t => z = (if (kpA (fun x => rnM s (vA s 98 32 + x)) n.toNat (up1 (fun x => vA s 98 (8 + 4 * c + x)) w (vA s 98 (8 + 4 * c + w) + m)) (vA s 98 (0 + c)) (vA s 98 (24 + c)) (n.toNat + 1) 0).isSome = true then 1 else 0) ∧ NFr s t) := by
  refine Ok.of (r := vm_m188) (ls := [some (.ref 95), some (.int (iI c)), some (.int (iI n)), some (.int (iI w)), some (.int (iI m))]) rfl (Nat.le_of_ble_eq_true rfl) rfl (fun d hd => ?_)
  obtain ⟨x1, x2, x3, x4, x5, x6, x7, x8⟩ := id hT
  have a1 : ∀ a z, a ≠ 106 → vA (sA (cpS s 98 (8 + 4 * c) 106 0 4) 106 w (vA (cpS s 98 (8 + 4 * c) 106 0 4) 106 w + m)) a z = vA s a z := fun a z h => by rw [vA_sA, if_neg (fun q => h q.1), cpS_A, if_neg (fun q => h q.1)]
  have l1 : ∀ x, 0 ≤ x → x < 4 → vA (cpS s 98 (8 + 4 * c) 106 0 4) 106 x = vA s 98 (8 + 4 * c + x) := fun x a b => by rw [cpS_A, if_pos ⟨rfl, a, by omega⟩]; congr 1; omega
  have hgb : ∀ x, 0 ≤ x → x < 4 → 0 ≤ (up1 (fun x => vA s 98 (8 + 4 * c + x)) w (vA s 98 (8 + 4 * c + w) + m)) x ∧ (up1 (fun x => vA s 98 (8 + 4 * c + x)) w (vA s 98 (8 + 4 * c + w) + m)) x ≤ 200 := fun x a b => by
    have := (hm.2.2.2 c c0 c1).2.2.2 x a b
    have := (hm.2.2.2 c c0 c1).2.2.2 w h2 h3
    rw [up1_at]
    split <;> omega
  have ho : 1 ≤ vA s 98 (0 + c) := by rw [Int.zero_add]; omega
  have B := c_keeps (X := X) (s := (sA (cpS s 98 (8 + 4 * c) 106 0 4) 106 w (vA (cpS s 98 (8 + 4 * c) 106 0 4) 106 w + m))) (c := c) (n := n) (lg := (up1 (fun x => vA s 98 (8 + 4 * c + x)) w (vA s 98 (8 + 4 * c + w) + m))) (hT.cong (fun z => a1 96 z (by decide))) (by rw [a1 96 2 (by decide)]; exact hm.cong (fun z => a1 98 z (by decide))) c0 (by rw [a1 96 2 (by decide)]; exact c1) n1 n6 (by rw [a1 98 _ (by decide)]; exact ho) (fun x a b => by
    rw [vA_sA, up1_at, l1 w h2 h3]
    by_cases ex : x = w
    · rw [if_pos ⟨rfl, ex⟩, if_pos ex]
    · rw [if_neg (fun q => ex q.2), if_neg ex]; exact l1 x a b) hgb
  rw [show (fun x => rnM (sA (cpS s 98 (8 + 4 * c) 106 0 4) 106 w (vA (cpS s 98 (8 + 4 * c) 106 0 4) 106 w + m)) (vA (sA (cpS s 98 (8 + 4 * c) 106 0 4) 106 w (vA (cpS s 98 (8 + 4 * c) 106 0 4) 106 w + m)) 98 32 + x)) = (fun x => rnM s (vA s 98 32 + x)) from funext (fun x => by rw [rnM_cong (fun z => a1 96 z (by decide)), a1 98 _ (by decide)]), a1 98 _ (by decide), a1 98 _ (by decide)] at B
  refine Gs_aload_n p188_0 rfl rfl ?_
  refine Gs_iload_n p188_1 rfl rfl ?_
  refine Gs_callV1W p188_2 (by rfl) (by rfl) (by first | rfl | assumption | exact (show isTale _ from by assumption).1 | exact (show isCamp _ _ from by assumption).1 | exact (show isRow _ _ from by assumption).1) (Nat.le_of_ble_eq_true rfl) (by decide) (c_layLogs c0 (by omega)) (by omega) ?_
  refine Gs_aload_n p188_5 rfl rfl ?_
  refine Gs_getR p188_6 (by first | rfl | assumption | exact (show isTale _ from by assumption).1 | exact (show isCamp _ _ from by assumption).1 | exact (show isRow _ _ from by assumption).1) (by rfl) ?_
  refine Gs_iload_n p188_9 rfl rfl ?_
  refine Gs_dup2 p188_10 rfl rfl ?_
  refine Gs_iald p188_11 (by first | rfl | assumption | exact (show isTale _ from by assumption).1 | exact (show isCamp _ _ from by assumption).1 | exact (show isRow _ _ from by assumption).1) (by omega) (by omega) (by omega) ?_
  refine Gs_iload p188_12 rfl rfl ?_
  refine Gs_iadd p188_14 ?_
  refine Gs_iast p188_15 (by first | rfl | assumption | exact (show isTale _ from by assumption).1 | exact (show isCamp _ _ from by assumption).1 | exact (show isRow _ _ from by assumption).1) (by omega) (by omega) (by omega) ?_
  refine Gs_aload_n p188_16 rfl rfl ?_
  refine Gs_iload_n p188_17 rfl rfl ?_
  refine Gs_iload_n p188_18 rfl rfl ?_
  refine Gs_callV2i p188_19 (by rfl) (by rfl) (by rfl) (Nat.le_of_ble_eq_true rfl) (by decide) (B) (by omega) (fun z19 s19 h19 => ?_)
  have fin := (ansK_fin (k := 0) h19.1 ho n1 n6).2.2.2.2
  have Fb := h19.1.F
  have fr : NFr s s19 := ⟨fun a z p1 p2 p3 => (h19.2.1 a z p1 p2 p3).trans (a1 a z p3), fun a f => h19.2.2 a f⟩
  refine Gs_ldc (z := (1000000)) p188_22 (by decide) (by decide) ?_
  refine Gs_icmp_ge (tgt := 31) p188_24 (by rfl) (by first | assumption | exact ⟨by omega, by omega⟩ | (split <;> exact ⟨by omega, by omega⟩)) (by first | assumption | exact ⟨by omega, by omega⟩ | (split <;> exact ⟨by omega, by omega⟩)) (fun h24 => ?_) (fun h24 => ?_)
  · refine Gs_iconst p188_31 ?_
    refine Gs_zret p188_32 rfl (by first | exact Or.inl rfl | exact Or.inr rfl | (split <;> first | exact Or.inl rfl | exact Or.inr rfl)) ⟨_, rfl, ?_⟩
    first
      | (rw [if_pos (fin.mp (by omega))]; exact ⟨rfl, fr⟩)
      | (rw [if_neg (fun q => absurd (fin.mpr q) (by omega))]; exact ⟨rfl, fr⟩)
  · refine Gs_iconst p188_27 ?_
    refine Gs_goto (tgt := 32) p188_28 (by rfl) ?_
    refine Gs_zret p188_32 rfl (by first | exact Or.inl rfl | exact Or.inr rfl | (split <;> first | exact Or.inl rfl | exact Or.inr rfl)) ⟨_, rfl, ?_⟩
    first
      | (rw [if_pos (fin.mp (by omega))]; exact ⟨rfl, fr⟩)
      | (rw [if_neg (fun q => absurd (fin.mpr q) (by omega))]; exact ⟨rfl, fr⟩)

set_option maxHeartbeats 4000000 in
set_option maxRecDepth 4000 in
theorem m_give {X : vX} {s : St} {a b n : Int} (hT : MT s) (hm : MC s 98 (vA s 96 2)) (a0 : 0 ≤ a) (a1 : a < vA s 96 2) (b0 : 0 ≤ b) (b1 : b < vA s 96 2) (hab : a ≠ b) (n1 : 1 ≤ n) (n6 : n ≤ 6) (ca2 : 0 < vA s 98 a) (cb2 : 0 < vA s 98 b) : OkI X 6 189 [.ref 95, .int (iI a), .int (iI b), .int (iI n)] s (fun z t => z = gvF (fun w => hlp (fun x => rnM s (vA s 98 32 + x)) (mv s 98 0 (vA s 96 2)) n a b w) 4 0 ∧ NFr s t) := by
  refine Ok.of (r := vm_m189) (ls := [some (.ref 95), some (.int (iI a)), some (.int (iI b)), some (.int (iI n)), none]) rfl (Nat.le_of_ble_eq_true rfl) rfl (fun d hd => ?_)
  obtain ⟨x1, x2, x3, x4, x5, x6, x7, x8⟩ := id hT
  generalize hA : gvF (fun w => hlp (fun x => rnM s (vA s 98 32 + x)) (mv s 98 0 (vA s 96 2)) n a b w) 4 0 = A
  refine Gs_aload_n p189_0 rfl rfl ?_
  refine Gs_iload_n p189_1 rfl rfl ?_
  refine Gs_callV1I p189_2 (by rfl) (by rfl) (by first | rfl | assumption | exact (show isTale _ from by assumption).1 | exact (show isCamp _ _ from by assumption).1 | exact (show isRow _ _ from by assumption).1) (Nat.le_of_ble_eq_true rfl) (by decide) (c_misCompany hT ⟨by omega, by omega⟩) (by omega) ?_
  refine Gs_ifb_eq (tgt := 33) p189_5 (by rfl) (fun h5 => ?_) (fun h5 => ?_)
  · refine Gs_iconst p189_33 ?_
    refine Gs_iret p189_34 rfl ⟨_, rfl, ?_⟩
    exfalso; omega
  · refine Gs_aload_n p189_8 rfl rfl ?_
    refine Gs_iload_n p189_9 rfl rfl ?_
    refine Gs_callV1I p189_10 (by rfl) (by rfl) (by first | rfl | assumption | exact (show isTale _ from by assumption).1 | exact (show isCamp _ _ from by assumption).1 | exact (show isRow _ _ from by assumption).1) (Nat.le_of_ble_eq_true rfl) (by decide) (c_misCompany hT ⟨by omega, by omega⟩) (by omega) ?_
    refine Gs_ifb_eq (tgt := 33) p189_13 (by rfl) (fun h13 => ?_) (fun h13 => ?_)
    · refine Gs_iconst p189_33 ?_
      refine Gs_iret p189_34 rfl ⟨_, rfl, ?_⟩
      exfalso; omega
    · refine Gs_iload_n p189_16 rfl rfl ?_
      refine Gs_iload_n p189_17 rfl rfl ?_
      refine Gs_icmp_eq (tgt := 33) p189_18 (by rfl) (by first | assumption | exact ⟨by omega, by omega⟩ | (split <;> exact ⟨by omega, by omega⟩)) (by first | assumption | exact ⟨by omega, by omega⟩ | (split <;> exact ⟨by omega, by omega⟩)) (fun h18 => ?_) (fun h18 => ?_)
      · refine Gs_iconst p189_33 ?_
        refine Gs_iret p189_34 rfl ⟨_, rfl, ?_⟩
        exfalso; omega
      · refine Gs_iload_n p189_21 rfl rfl ?_
        refine Gs_i2l p189_22 (by first | assumption | exact ⟨by omega, by omega⟩ | (split <;> exact ⟨by omega, by omega⟩)) ?_
        refine Gs_lconst (z := 1) p189_23 (by decide) ?_
        refine Gs_ldc2 (z := (6)) p189_24 (by decide) ?_
        refine Gs_callS3I p189_27 (by rfl) (Nat.le_of_ble_eq_true rfl) (by decide) (c_in ⟨by omega, by omega⟩ ⟨by omega, by omega⟩ ⟨by omega, by omega⟩) (by omega) ?_
        refine Gs_ifb_ne (tgt := 35) p189_30 (by rfl) (fun h30 => ?_) (fun h30 => ?_)
        · refine Gs_aload_n p189_35 rfl rfl ?_
          refine Gs_iload_n p189_36 rfl rfl ?_
          refine Gs_callV1I p189_37 (by rfl) (by rfl) (by first | rfl | assumption | exact (show isTale _ from by assumption).1 | exact (show isCamp _ _ from by assumption).1 | exact (show isRow _ _ from by assumption).1) (Nat.le_of_ble_eq_true rfl) (by decide) (c_misIn hm a0 (by omega)) (by omega) ?_
          refine Gs_ifb_eq (tgt := 51) p189_40 (by rfl) (fun h40 => ?_) (fun h40 => ?_)
          · refine Gs_bipush p189_51 (by decide) ?_
            refine Gs_iret p189_53 rfl ⟨_, rfl, ?_⟩
            exfalso; omega
          · refine Gs_aload_n p189_43 rfl rfl ?_
            refine Gs_iload_n p189_44 rfl rfl ?_
            refine Gs_callV1I p189_45 (by rfl) (by rfl) (by first | rfl | assumption | exact (show isTale _ from by assumption).1 | exact (show isCamp _ _ from by assumption).1 | exact (show isRow _ _ from by assumption).1) (Nat.le_of_ble_eq_true rfl) (by decide) (c_misIn hm b0 (by omega)) (by omega) ?_
            refine Gs_ifb_ne (tgt := 54) p189_48 (by rfl) (fun h48 => ?_) (fun h48 => ?_)
            · refine Gs_iconst p189_54 ?_
              refine Gs_ist4 p189_55 (by first | rfl | assumption) ?_
              refine dn (n := (4 : Int)) (P := fun i => ∀ y, NFr s y → gvF (fun w => hlp (fun x => rnM s (vA s 98 32 + x)) (mv s 98 0 (vA s 96 2)) n a b w) (4 - i).toNat i = A → Gs X d 189 57 [some (.ref 95), some (.int (iI a)), some (.int (iI b)), some (.int (iI n)), some (.int (iI i))] [] (y) (fun vv yy => ∃ zz : Int, vv = some (.int (iI zz)) ∧ (fun z t => z = A ∧ NFr s t) zz yy)) (by omega) (fun i hi hin ih => ?_) ?_ s (NFr.rfl' s) hA
              · show ∀ y, NFr s y → gvF (fun w => hlp (fun x => rnM s (vA s 98 32 + x)) (mv s 98 0 (vA s 96 2)) n a b w) (4 - i).toNat i = A → Gs X d 189 57 [some (.ref 95), some (.int (iI a)), some (.int (iI b)), some (.int (iI n)), some (.int (iI i))] [] (y) _
                intro y o e
                rw [show (4 - i).toNat = (4 - (i + 1)).toNat + 1 by omega, gvF_s] at e
                have f96 : ∀ z, vA y 96 z = vA s 96 z := fun z => o.1 96 z (by decide) (by decide) (by decide)
                have f98 : ∀ z, vA y 98 z = vA s 98 z := fun z => o.1 98 z (by decide) (by decide) (by decide)
                have wa := (hm.2.2.2 a a0 a1).2.2.2 i hi hin
                have wb := (hm.2.2.2 b b0 b1).2.2.2 i hi hin
                have H0 : hlp (fun x => rnM s (vA s 98 32 + x)) (mv s 98 0 (vA s 96 2)) n a b i = (decide (1 ≤ vA s 98 (8 + 4 * a + i) ∧ vA s 98 (8 + 4 * b + i) < 99) && ((kpA (fun x => rnM s (vA s 98 32 + x)) n.toNat (up1 (fun x => mv s 98 0 (vA s 96 2) a (2 + x)) i (mv s 98 0 (vA s 96 2) a (2 + i) + -1)) (mv s 98 0 (vA s 96 2) a 0) (mv s 98 0 (vA s 96 2) a 6) (n.toNat + 1) 0).isSome && (kpA (fun x => rnM s (vA s 98 32 + x)) n.toNat (up1 (fun x => mv s 98 0 (vA s 96 2) b (2 + x)) i (mv s 98 0 (vA s 96 2) b (2 + i) + 1)) (mv s 98 0 (vA s 96 2) b 0) (mv s 98 0 (vA s 96 2) b 6) (n.toNat + 1) 0).isSome)) := by
                  unfold hlp
                  rw [mv2 a0 a1 hi hin, mv2 b0 b1 hi hin]
                rw [H0] at e
                have ka : kpA (fun x => rnM s (vA s 98 32 + x)) n.toNat (up1 (fun x => mv s 98 0 (vA s 96 2) a (2 + x)) i (mv s 98 0 (vA s 96 2) a (2 + i) + -1)) (mv s 98 0 (vA s 96 2) a 0) (mv s 98 0 (vA s 96 2) a 6) (n.toNat + 1) 0 = kpA (fun x => rnM s (vA s 98 32 + x)) n.toNat (up1 (fun x => vA s 98 (8 + 4 * a + x)) i (vA s 98 (8 + 4 * a + i) + -1)) (vA s 98 (0 + a)) (vA s 98 (24 + a)) (n.toNat + 1) 0 := by
                  rw [mv0 a0 a1, mv6 a0 a1, mv2 a0 a1 hi hin, Int.zero_add]
                  exact kpA_cong (fun x x0 x1 => by rw [up1_at, up1_at]; split; rfl; exact mv2 a0 a1 x0 x1) _ _
                have kb : kpA (fun x => rnM s (vA s 98 32 + x)) n.toNat (up1 (fun x => mv s 98 0 (vA s 96 2) b (2 + x)) i (mv s 98 0 (vA s 96 2) b (2 + i) + 1)) (mv s 98 0 (vA s 96 2) b 0) (mv s 98 0 (vA s 96 2) b 6) (n.toNat + 1) 0 = kpA (fun x => rnM s (vA s 98 32 + x)) n.toNat (up1 (fun x => vA s 98 (8 + 4 * b + x)) i (vA s 98 (8 + 4 * b + i) + 1)) (vA s 98 (0 + b)) (vA s 98 (24 + b)) (n.toNat + 1) 0 := by
                  rw [mv0 b0 b1, mv6 b0 b1, mv2 b0 b1 hi hin, Int.zero_add]
                  exact kpA_cong (fun x x0 x1 => by rw [up1_at, up1_at]; split; rfl; exact mv2 b0 b1 x0 x1) _ _
                have mh := c_mayHand (X := X) (s := y) (n := vA s 96 2) (hm.cong f98) (by omega) a0 a1 b0 b1 hi hin
                rw [f98, f98] at mh
                refine Gs_iload p189_57 rfl rfl ?_
                refine Gs_iconst p189_59 ?_
                refine Gs_icmp_ge (tgt := 107) p189_60 (by rfl) (by first | assumption | exact ⟨by omega, by omega⟩ | (split <;> exact ⟨by omega, by omega⟩)) (by first | assumption | exact ⟨by omega, by omega⟩ | (split <;> exact ⟨by omega, by omega⟩)) (fun hc60 => absurd ‹_› (by first | omega | assumption)) (fun hc60 => ?_)
                refine Gs_aload_n p189_63 rfl rfl ?_
                refine Gs_iload_n p189_64 rfl rfl ?_
                refine Gs_iload_n p189_65 rfl rfl ?_
                refine Gs_iload p189_66 rfl rfl ?_
                refine Gs_callV3I p189_68 (by rfl) (by rfl) (by rfl) (Nat.le_of_ble_eq_true rfl) (by decide) (mh) (by omega) ?_
                refine Gs_ifb_eq (tgt := 101) p189_71 (by rfl) (fun h71 => ?_) (fun h71 => ?_)
                · refine Gs_iinc4 (b54 := none) p189_101 (by first | rfl | assumption) ?_
                  refine Gs_goto (tgt := 57) p189_104 (by rfl) ?_
                  first
                    | (rw [decide_eq_false (by omega), Bool.false_and, if_neg (by decide)] at e; exact ih _ o e)
                    | (have ha : (kpA (fun x => rnM s (vA s 98 32 + x)) n.toNat (up1 (fun x => mv s 98 0 (vA s 96 2) a (2 + x)) i (mv s 98 0 (vA s 96 2) a (2 + i) + -1)) (mv s 98 0 (vA s 96 2) a 0) (mv s 98 0 (vA s 96 2) a 6) (n.toNat + 1) 0).isSome = false := by
                         cases q : (kpA (fun x => rnM s (vA s 98 32 + x)) n.toNat (up1 (fun x => mv s 98 0 (vA s 96 2) a (2 + x)) i (mv s 98 0 (vA s 96 2) a (2 + i) + -1)) (mv s 98 0 (vA s 96 2) a 0) (mv s 98 0 (vA s 96 2) a 6) (n.toNat + 1) 0).isSome with
                         | false => rfl
                         | true => rw [q] at h83; exact absurd rfl h83
                       rw [ha, Bool.false_and, Bool.and_false, if_neg (by decide)] at e; exact ih _ (o.trans h80.2) e)
                    | (have hb : (kpA (fun x => rnM s (vA s 98 32 + x)) n.toNat (up1 (fun x => mv s 98 0 (vA s 96 2) b (2 + x)) i (mv s 98 0 (vA s 96 2) b (2 + i) + 1)) (mv s 98 0 (vA s 96 2) b 0) (mv s 98 0 (vA s 96 2) b 6) (n.toNat + 1) 0).isSome = false := by
                         cases q : (kpA (fun x => rnM s (vA s 98 32 + x)) n.toNat (up1 (fun x => mv s 98 0 (vA s 96 2) b (2 + x)) i (mv s 98 0 (vA s 96 2) b (2 + i) + 1)) (mv s 98 0 (vA s 96 2) b 0) (mv s 98 0 (vA s 96 2) b 6) (n.toNat + 1) 0).isSome with
                         | false => rfl
                         | true => rw [q] at h95; exact absurd rfl h95
                       rw [hb, Bool.and_false, Bool.and_false, if_neg (by decide)] at e; exact ih _ (o3.trans h92.2) e)
                · have BA := c_isKeptWith (X := X) (s := y) (c := a) (n := n) (w := i) (m := -1) (hT.cong (fun z => o.1 96 z (by decide) (by decide) (by decide))) (by rw [o.1 96 2 (by decide) (by decide) (by decide)]; exact hm.cong (fun z => o.1 98 z (by decide) (by decide) (by decide))) a0 (by rw [o.1 96 2 (by decide) (by decide) (by decide)]; exact a1) n1 n6 hi hin (by rw [o.1 98 _ (by decide) (by decide) (by decide)]; exact ca2) (by decide) (by rw [o.1 98 _ (by decide) (by decide) (by decide)]; omega)
                  rw [show (fun x => rnM y (vA y 98 32 + x)) = (fun x => rnM s (vA s 98 32 + x)) from funext (fun x => by rw [rnM_cong (fun z => o.1 96 z (by decide) (by decide) (by decide)), o.1 98 _ (by decide) (by decide) (by decide)]), o.1 98 _ (by decide) (by decide) (by decide), o.1 98 _ (by decide) (by decide) (by decide), o.1 98 _ (by decide) (by decide) (by decide), show (fun x => vA y 98 (8 + 4 * a + x)) = (fun x => vA s 98 (8 + 4 * a + x)) from funext (fun x => o.1 98 _ (by decide) (by decide) (by decide)), ← ka] at BA
                  refine Gs_aload_n p189_74 rfl rfl ?_
                  refine Gs_iload_n p189_75 rfl rfl ?_
                  refine Gs_iload_n p189_76 rfl rfl ?_
                  refine Gs_iload p189_77 rfl rfl ?_
                  refine Gs_iconst p189_79 ?_
                  refine Gs_callV4i p189_80 (by rfl) (by rfl) (by rfl) (Nat.le_of_ble_eq_true rfl) (by decide) (BA) (by omega) (fun z80 s80 h80 => ?_)
                  rw [h80.1]
                  have o3 := o.trans h80.2
                  refine Gs_ifb_eq (tgt := 101) p189_83 (by rfl) (fun h83 => ?_) (fun h83 => ?_)
                  · refine Gs_iinc4 (b54 := none) p189_101 (by first | rfl | assumption) ?_
                    refine Gs_goto (tgt := 57) p189_104 (by rfl) ?_
                    first
                      | (rw [decide_eq_false (by omega), Bool.false_and, if_neg (by decide)] at e; exact ih _ o e)
                      | (have ha : (kpA (fun x => rnM s (vA s 98 32 + x)) n.toNat (up1 (fun x => mv s 98 0 (vA s 96 2) a (2 + x)) i (mv s 98 0 (vA s 96 2) a (2 + i) + -1)) (mv s 98 0 (vA s 96 2) a 0) (mv s 98 0 (vA s 96 2) a 6) (n.toNat + 1) 0).isSome = false := by
                           cases q : (kpA (fun x => rnM s (vA s 98 32 + x)) n.toNat (up1 (fun x => mv s 98 0 (vA s 96 2) a (2 + x)) i (mv s 98 0 (vA s 96 2) a (2 + i) + -1)) (mv s 98 0 (vA s 96 2) a 0) (mv s 98 0 (vA s 96 2) a 6) (n.toNat + 1) 0).isSome with
                           | false => rfl
                           | true => rw [q] at h83; exact absurd rfl h83
                         rw [ha, Bool.false_and, Bool.and_false, if_neg (by decide)] at e; exact ih _ (o.trans h80.2) e)
                      | (have hb : (kpA (fun x => rnM s (vA s 98 32 + x)) n.toNat (up1 (fun x => mv s 98 0 (vA s 96 2) b (2 + x)) i (mv s 98 0 (vA s 96 2) b (2 + i) + 1)) (mv s 98 0 (vA s 96 2) b 0) (mv s 98 0 (vA s 96 2) b 6) (n.toNat + 1) 0).isSome = false := by
                           cases q : (kpA (fun x => rnM s (vA s 98 32 + x)) n.toNat (up1 (fun x => mv s 98 0 (vA s 96 2) b (2 + x)) i (mv s 98 0 (vA s 96 2) b (2 + i) + 1)) (mv s 98 0 (vA s 96 2) b 0) (mv s 98 0 (vA s 96 2) b 6) (n.toNat + 1) 0).isSome with
                           | false => rfl
                           | true => rw [q] at h95; exact absurd rfl h95
                         rw [hb, Bool.and_false, Bool.and_false, if_neg (by decide)] at e; exact ih _ (o3.trans h92.2) e)
                  · have BB := c_isKeptWith (X := X) (s := s80) (c := b) (n := n) (w := i) (m := 1) (hT.cong (fun z => o3.1 96 z (by decide) (by decide) (by decide))) (by rw [o3.1 96 2 (by decide) (by decide) (by decide)]; exact hm.cong (fun z => o3.1 98 z (by decide) (by decide) (by decide))) b0 (by rw [o3.1 96 2 (by decide) (by decide) (by decide)]; exact b1) n1 n6 hi hin (by rw [o3.1 98 _ (by decide) (by decide) (by decide)]; exact cb2) (by decide) (by rw [o3.1 98 _ (by decide) (by decide) (by decide)]; omega)
                    rw [show (fun x => rnM s80 (vA s80 98 32 + x)) = (fun x => rnM s (vA s 98 32 + x)) from funext (fun x => by rw [rnM_cong (fun z => o3.1 96 z (by decide) (by decide) (by decide)), o3.1 98 _ (by decide) (by decide) (by decide)]), o3.1 98 _ (by decide) (by decide) (by decide), o3.1 98 _ (by decide) (by decide) (by decide), o3.1 98 _ (by decide) (by decide) (by decide), show (fun x => vA s80 98 (8 + 4 * b + x)) = (fun x => vA s 98 (8 + 4 * b + x)) from funext (fun x => o3.1 98 _ (by decide) (by decide) (by decide)), ← kb] at BB
                    refine Gs_aload_n p189_86 rfl rfl ?_
                    refine Gs_iload_n p189_87 rfl rfl ?_
                    refine Gs_iload_n p189_88 rfl rfl ?_
                    refine Gs_iload p189_89 rfl rfl ?_
                    refine Gs_iconst p189_91 ?_
                    refine Gs_callV4i p189_92 (by rfl) (by rfl) (by rfl) (Nat.le_of_ble_eq_true rfl) (by decide) (BB) (by omega) (fun z92 s92 h92 => ?_)
                    rw [h92.1]
                    refine Gs_ifb_eq (tgt := 101) p189_95 (by rfl) (fun h95 => ?_) (fun h95 => ?_)
                    · refine Gs_iinc4 (b54 := none) p189_101 (by first | rfl | assumption) ?_
                      refine Gs_goto (tgt := 57) p189_104 (by rfl) ?_
                      first
                        | (rw [decide_eq_false (by omega), Bool.false_and, if_neg (by decide)] at e; exact ih _ o e)
                        | (have ha : (kpA (fun x => rnM s (vA s 98 32 + x)) n.toNat (up1 (fun x => mv s 98 0 (vA s 96 2) a (2 + x)) i (mv s 98 0 (vA s 96 2) a (2 + i) + -1)) (mv s 98 0 (vA s 96 2) a 0) (mv s 98 0 (vA s 96 2) a 6) (n.toNat + 1) 0).isSome = false := by
                             cases q : (kpA (fun x => rnM s (vA s 98 32 + x)) n.toNat (up1 (fun x => mv s 98 0 (vA s 96 2) a (2 + x)) i (mv s 98 0 (vA s 96 2) a (2 + i) + -1)) (mv s 98 0 (vA s 96 2) a 0) (mv s 98 0 (vA s 96 2) a 6) (n.toNat + 1) 0).isSome with
                             | false => rfl
                             | true => rw [q] at h83; exact absurd rfl h83
                           rw [ha, Bool.false_and, Bool.and_false, if_neg (by decide)] at e; exact ih _ (o.trans h80.2) e)
                        | (have hb : (kpA (fun x => rnM s (vA s 98 32 + x)) n.toNat (up1 (fun x => mv s 98 0 (vA s 96 2) b (2 + x)) i (mv s 98 0 (vA s 96 2) b (2 + i) + 1)) (mv s 98 0 (vA s 96 2) b 0) (mv s 98 0 (vA s 96 2) b 6) (n.toNat + 1) 0).isSome = false := by
                             cases q : (kpA (fun x => rnM s (vA s 98 32 + x)) n.toNat (up1 (fun x => mv s 98 0 (vA s 96 2) b (2 + x)) i (mv s 98 0 (vA s 96 2) b (2 + i) + 1)) (mv s 98 0 (vA s 96 2) b 0) (mv s 98 0 (vA s 96 2) b 6) (n.toNat + 1) 0).isSome with
                             | false => rfl
                             | true => rw [q] at h95; exact absurd rfl h95
                           rw [hb, Bool.and_false, Bool.and_false, if_neg (by decide)] at e; exact ih _ (o3.trans h92.2) e)
                    · refine Gs_iload p189_98 rfl rfl ?_
                      refine Gs_iret p189_100 rfl ⟨_, rfl, ?_⟩
                      rw [decide_eq_true (by omega), h83, h95, if_pos (by decide)] at e
                      exact ⟨e, o3.trans h92.2⟩
              · show ∀ y, NFr s y → gvF (fun w => hlp (fun x => rnM s (vA s 98 32 + x)) (mv s 98 0 (vA s 96 2)) n a b w) (4 - ((4 : Int))).toNat ((4 : Int)) = A → Gs X d 189 57 [some (.ref 95), some (.int (iI a)), some (.int (iI b)), some (.int (iI n)), some (.int (iI ((4 : Int))))] [] (y) _
                intro y o e
                refine Gs_iload p189_57 rfl rfl ?_
                refine Gs_iconst p189_59 ?_
                refine Gs_icmp_ge (tgt := 107) p189_60 (by rfl) (by first | assumption | exact ⟨by omega, by omega⟩ | (split <;> exact ⟨by omega, by omega⟩)) (by first | assumption | exact ⟨by omega, by omega⟩ | (split <;> exact ⟨by omega, by omega⟩)) (fun hc60 => ?_) (fun hc60 => absurd ‹_› (by first | omega | assumption))
                refine Gs_bipush p189_107 (by decide) ?_
                refine Gs_iret p189_109 rfl ⟨_, rfl, ?_⟩
                have e : -4 = A := e
                exact ⟨e, o⟩
            · refine Gs_bipush p189_51 (by decide) ?_
              refine Gs_iret p189_53 rfl ⟨_, rfl, ?_⟩
              exfalso; omega
        · refine Gs_iconst p189_33 ?_
          refine Gs_iret p189_34 rfl ⟨_, rfl, ?_⟩
          exfalso; omega

set_option maxHeartbeats 1000000 in
set_option maxRecDepth 4000 in
theorem m_give_no {X : vX} {s : St} {a b n : Int} (hT : MT s) (hm : MC s 98 (vA s 96 2)) (ga : rg a) (gb : rg b) (gn : rg n) (hno : ¬ ((((0 ≤ a ∧ a < vA s 96 2) ∧ (0 ≤ b ∧ b < vA s 96 2) ∧ a ≠ b) ∧ (1 ≤ n ∧ n ≤ 6)) ∧ (0 < vA s 98 a ∧ 0 < vA s 98 b))) : OkI X 6 189 [.ref 95, .int (iI a), .int (iI b), .int (iI n)] s (Is1 (if ((0 ≤ a ∧ a < vA s 96 2) ∧ (0 ≤ b ∧ b < vA s 96 2) ∧ a ≠ b) ∧ (1 ≤ n ∧ n ≤ 6) then -2 else -1) s) := by
  refine Ok.of (r := vm_m189) (ls := [some (.ref 95), some (.int (iI a)), some (.int (iI b)), some (.int (iI n)), none]) rfl (Nat.le_of_ble_eq_true rfl) rfl (fun d hd => ?_)
  obtain ⟨x1, x2, x3, x4, x5, x6, x7, x8⟩ := id hT
  refine Gs_aload_n p189_0 rfl rfl ?_
  refine Gs_iload_n p189_1 rfl rfl ?_
  refine Gs_callV1I p189_2 (by rfl) (by rfl) (by first | rfl | assumption | exact (show isTale _ from by assumption).1 | exact (show isCamp _ _ from by assumption).1 | exact (show isRow _ _ from by assumption).1) (Nat.le_of_ble_eq_true rfl) (by decide) (c_misCompany hT ga) (by omega) ?_
  refine Gs_ifb_eq (tgt := 33) p189_5 (by rfl) (fun h5 => ?_) (fun h5 => ?_)
  · refine Gs_iconst p189_33 ?_
    refine Gs_iret p189_34 rfl ⟨_, rfl, ?_⟩
    refine ⟨?_, rfl⟩
    first | (rw [if_neg (by omega)]; done) | (rw [if_pos (by omega)]; done)
  · refine Gs_aload_n p189_8 rfl rfl ?_
    refine Gs_iload_n p189_9 rfl rfl ?_
    refine Gs_callV1I p189_10 (by rfl) (by rfl) (by first | rfl | assumption | exact (show isTale _ from by assumption).1 | exact (show isCamp _ _ from by assumption).1 | exact (show isRow _ _ from by assumption).1) (Nat.le_of_ble_eq_true rfl) (by decide) (c_misCompany hT gb) (by omega) ?_
    refine Gs_ifb_eq (tgt := 33) p189_13 (by rfl) (fun h13 => ?_) (fun h13 => ?_)
    · refine Gs_iconst p189_33 ?_
      refine Gs_iret p189_34 rfl ⟨_, rfl, ?_⟩
      refine ⟨?_, rfl⟩
      first | (rw [if_neg (by omega)]; done) | (rw [if_pos (by omega)]; done)
    · refine Gs_iload_n p189_16 rfl rfl ?_
      refine Gs_iload_n p189_17 rfl rfl ?_
      refine Gs_icmp_eq (tgt := 33) p189_18 (by rfl) (by first | assumption | exact ⟨by omega, by omega⟩ | (split <;> exact ⟨by omega, by omega⟩)) (by first | assumption | exact ⟨by omega, by omega⟩ | (split <;> exact ⟨by omega, by omega⟩)) (fun h18 => ?_) (fun h18 => ?_)
      · refine Gs_iconst p189_33 ?_
        refine Gs_iret p189_34 rfl ⟨_, rfl, ?_⟩
        refine ⟨?_, rfl⟩
        first | (rw [if_neg (by omega)]; done) | (rw [if_pos (by omega)]; done)
      · refine Gs_iload_n p189_21 rfl rfl ?_
        refine Gs_i2l p189_22 (by first | assumption | exact ⟨by omega, by omega⟩ | (split <;> exact ⟨by omega, by omega⟩)) ?_
        refine Gs_lconst (z := 1) p189_23 (by decide) ?_
        refine Gs_ldc2 (z := (6)) p189_24 (by decide) ?_
        refine Gs_callS3I p189_27 (by rfl) (Nat.le_of_ble_eq_true rfl) (by decide) (c_in (rg_L gn) ⟨by omega, by omega⟩ ⟨by omega, by omega⟩) (by omega) ?_
        refine Gs_ifb_ne (tgt := 35) p189_30 (by rfl) (fun h30 => ?_) (fun h30 => ?_)
        · refine Gs_aload_n p189_35 rfl rfl ?_
          refine Gs_iload_n p189_36 rfl rfl ?_
          refine Gs_callV1I p189_37 (by rfl) (by rfl) (by first | rfl | assumption | exact (show isTale _ from by assumption).1 | exact (show isCamp _ _ from by assumption).1 | exact (show isRow _ _ from by assumption).1) (Nat.le_of_ble_eq_true rfl) (by decide) (c_misIn hm (by omega) (by omega)) (by omega) ?_
          refine Gs_ifb_eq (tgt := 51) p189_40 (by rfl) (fun h40 => ?_) (fun h40 => ?_)
          · refine Gs_bipush p189_51 (by decide) ?_
            refine Gs_iret p189_53 rfl ⟨_, rfl, ?_⟩
            refine ⟨?_, rfl⟩
            first | (rw [if_neg (by omega)]; done) | (rw [if_pos (by omega)]; done)
          · refine Gs_aload_n p189_43 rfl rfl ?_
            refine Gs_iload_n p189_44 rfl rfl ?_
            refine Gs_callV1I p189_45 (by rfl) (by rfl) (by first | rfl | assumption | exact (show isTale _ from by assumption).1 | exact (show isCamp _ _ from by assumption).1 | exact (show isRow _ _ from by assumption).1) (Nat.le_of_ble_eq_true rfl) (by decide) (c_misIn hm (by omega) (by omega)) (by omega) ?_
            refine Gs_ifb_ne (tgt := 54) p189_48 (by rfl) (fun h48 => ?_) (fun h48 => ?_)
            · exfalso; omega
            · refine Gs_bipush p189_51 (by decide) ?_
              refine Gs_iret p189_53 rfl ⟨_, rfl, ?_⟩
              refine ⟨?_, rfl⟩
              first | (rw [if_neg (by omega)]; done) | (rw [if_pos (by omega)]; done)
        · refine Gs_iconst p189_33 ?_
          refine Gs_iret p189_34 rfl ⟨_, rfl, ?_⟩
          refine ⟨?_, rfl⟩
          first | (rw [if_neg (by omega)]; done) | (rw [if_pos (by omega)]; done)

theorem T_give {X : vX} {K : Int} {s : St} (hR : Rel K s) (hK : K < 512) {x1 x2 x3 : Int} (g1 : rg x1) (g2 : rg x2) (g3 : rg x3) : Both X K s 111 189 [.int (iI x1), .int (iI x2), .int (iI x3)] := by
  obtain ⟨h0, h1, h2, h3, h4, h5, h6⟩ := id hR
  by_cases c : (((0 ≤ x1 ∧ x1 < vA s 96 2) ∧ (0 ≤ x2 ∧ x2 < vA s 96 2) ∧ x1 ≠ x2) ∧ (1 ≤ x3 ∧ x3 ≤ 6)) ∧ (1 ≤ cg s 14 x1 0 ∧ 1 ≤ cg s 14 x2 0)
  · obtain ⟨⟨⟨⟨a0, a1⟩, ⟨b0, b1⟩, hab⟩, n1, n6⟩, c1, c2⟩ := c
    obtain ⟨z, t, ⟨ez, o⟩, A⟩ := (k_give (X := X) h3.1 h4.1 a0 a1 b0 b1 hab n1 n6 c1 c2).ex
    have e96 : ∀ z, vA t 96 z = vA s 96 z := fun z => o.1 96 z (by decide) (by decide)
    have e98 : ∀ z, vA t 98 z = vA s 98 z := fun z => o.1 98 z (by decide) (by decide)
    have va := h4.v0 a0 a1 (w := 0) (by omega) (by omega)
    have vb := h4.v0 b0 b1 (w := 0) (by omega) (by omega)
    rw [mi_0] at va vb
    obtain ⟨z', t', ⟨ez', o'⟩, B⟩ := (m_give (X := X) (s := t) (a := x1) (b := x2) (n := x3) (hR.MT.cong e96) (by rw [e96]; exact h4.mc.cong e98) a0 (by rw [e96]; exact a1) b0 (by rw [e96]; exact b1) hab n1 n6 (by rw [e98]; omega) (by rw [e98]; omega)).ex
    refine Both.n hR A B (by decide) (by decide) ?_ ⟨fun a ha z => ?_, fun a k ha => ?_⟩
    · rw [ez, ez', show (fun x => rnM t (vA t 98 32 + x)) = (fun x => rnI s 5 (vF s 14 2 + x)) from funext (fun x => by rw [rnM_cong e96, e98, h3.rn, show vA s 98 32 = vF s 14 2 from h4.2.1.symm]), e96, mv_cong e98, ← h4.tab]
    · rw [o'.1 a z (fun e => ha (by unfold scr; omega)) (fun e => ha (by unfold scr; omega)) (fun e => ha (by unfold scr; omega)), o.1 a z (fun e => ha (by unfold scr; omega)) (fun e => ha (by unfold scr; omega))]
    · rw [o'.2, o.2 a k (fun e => ha.1 (by unfold scr; omega)) (fun e => ha.1 (by unfold scr; omega))]
  · refine Both.q hR (k_give_no h4.1 g1 g2 g3 c) (m_give_no hR.MT h4.mc g1 g2 g3 (fun q => c ⟨q.1, ?_, ?_⟩)) (by decide) (by decide) rfl ?_ (Kept.rfl' s)
    · rw [h4.v0 q.1.1.1.1 q.1.1.1.2 (by omega) (by omega), mi_0]; omega
    · rw [h4.v0 q.1.1.2.1.1 q.1.1.2.1.2 (by omega) (by omega), mi_0]; omega
    · split <;> exact ⟨by omega, by omega⟩