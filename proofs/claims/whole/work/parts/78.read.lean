/-! the reader, the class' side: letters, figures, numbers -/
def fg (x : Int) : Int := if 48 ≤ x ∧ x ≤ 57 then x - 48 else -4
theorem fg_b (x : Int) : -4 ≤ fg x ∧ fg x ≤ 9 ∧ (fg x = -4 ∨ 0 ≤ fg x) := by unfold fg; split <;> omega
def nmV (ch : Int → Int) (p : Int) : Int := if fg (ch p) = -4 then -4 else if fg (ch (p + 1)) = -4 then fg (ch p) else 10 * fg (ch p) + fg (ch (p + 1))
def nmP (ch : Int → Int) (p : Int) : Int := if fg (ch p) = -4 ∨ fg (ch (p + 1)) = -4 then p + 1 else p + 2
theorem nmV_b (ch : Int → Int) (p : Int) : -4 ≤ nmV ch p ∧ nmV ch p ≤ 99 ∧ (nmV ch p = -4 ∨ 0 ≤ nmV ch p) := by
  have := fg_b (ch p)
  have := fg_b (ch (p + 1))
  unfold nmV
  (repeat' split) <;> omega
theorem nmP_b (ch : Int → Int) (p : Int) : p + 1 ≤ nmP ch p ∧ nmP ch p ≤ p + 2 := by unfold nmP; split <;> omega
/-- where the i-th number begins -/
def pS (ch : Int → Int) (p : Int) : Nat → Int
  | 0 => p
  | i + 1 => nmP ch (pS ch p i) + 1
theorem pS_b (ch : Int → Int) (p : Int) (i : Nat) : p + 2 * i ≤ pS ch p i ∧ pS ch p i ≤ p + 3 * i := by
  induction i with
  | zero => show p + 2 * ((0 : Nat) : Int) ≤ p ∧ p ≤ p + 3 * ((0 : Nat) : Int); omega
  | succ i ih =>
    have := nmP_b ch (pS ch p i)
    show p + _ ≤ nmP ch (pS ch p i) + 1 ∧ nmP ch (pS ch p i) + 1 ≤ _
    omega
abbrev figOk (ch : Int → Int) (p : Int) : Prop := (∀ j : Nat, j < 4 → ¬ fg (ch (p + j)) = -4) ∧ ch (p + 4) = 59
abbrev nOk (ch : Int → Int) (p : Int) (n : Nat) : Prop := ∀ i : Nat, i < n → ¬ nmV ch (pS ch p i) = -4 ∧ ch (nmP ch (pS ch p i)) = (if i + 1 < n then 44 else 59)
def RText (u : St) (ch : Int → Int) : Prop := 0 ≤ vF u 1 1 ∧ vF u 1 1 ≤ 200 ∧ (∀ p, (if 0 ≤ p ∧ p < vF u 1 1 then vA u 2 p else -4) = ch p) ∧ ∀ p, -4 ≤ ch p ∧ ch p ≤ 126
theorem RText.cong {u t : St} {ch : Int → Int} (h : RText u ch) (e1 : vF t 1 1 = vF u 1 1) (e2 : ∀ z, vA t 2 z = vA u 2 z) : RText t ch := by unfold RText at h ⊢; simp only [e1, e2]; exact h
theorem row55 : isRow 55 6 := ⟨rfl, rfl, by decide⟩
def NumFr (u t : St) : Prop := (∀ a z, a ≠ 56 → vA t a z = vA u a z) ∧ (∀ a k, ¬ (a = 55 ∧ k = 1) → ¬ (a = 54 ∧ k = 4) → vF t a k = vF u a k)
theorem NumFr.trans {s t u : St} (h : NumFr s t) (g : NumFr t u) : NumFr s u := ⟨fun a z e => (g.1 a z e).trans (h.1 a z e), fun a k e f => (g.2 a k e f).trans (h.2 a k e f)⟩
theorem NumFr.txt {u t : St} {ch : Int → Int} (h : NumFr u t) (g : RText u ch) : RText t ch := g.cong (h.2 _ _ (by decide) (by decide)) (fun z => h.1 _ z (by decide))
set_option maxHeartbeats 1000000 in
set_option maxRecDepth 4000 in
theorem c_take {X : vX} {s : St} {ch : Int → Int} {p : Int} (t : RText s ch) (hp : vF s 54 4 = p) (p0 : 0 ≤ p) (p1 : p ≤ 1000000) : OkI X 1 52 [.ref 54] s (Is1 (ch p) (sF s 54 4 (p + 1))) := by
  refine Ok.of (r := vm_m52) (ls := [some (.ref 54), none]) rfl (Nat.le_of_ble_eq_true rfl) rfl (fun d hd => ?_)
  obtain ⟨t1, t2, t3, t4⟩ := id t
  subst hp
  refine Gs_aload_n p52_0 rfl rfl ?_
  refine Gs_getR p52_1 (by first | rfl | assumption | exact (show isTale _ from by assumption).1 | exact (show isCamp _ _ from by assumption).1 | exact (show isRow _ _ from by assumption).1) (by rfl) ?_
  refine Gs_aload_n p52_4 rfl rfl ?_
  refine Gs_getI p52_5 (by first | rfl | assumption | exact (show isTale _ from by assumption).1 | exact (show isCamp _ _ from by assumption).1 | exact (show isRow _ _ from by assumption).1) (by rfl) ?_
  refine Gs_callV1I p52_8 (by rfl) (by rfl) (by rfl) (Nat.le_of_ble_eq_true rfl) (by decide) (c_aget (a := 2) row1 rfl ⟨by omega, by omega⟩ (by omega) (by omega)) (by omega) ?_
  rw [t3]
  refine Gs_ist1 p52_11 (by first | rfl | assumption) ?_
  refine Gs_aload_n p52_12 rfl rfl ?_
  refine Gs_dup p52_13 rfl ?_
  refine Gs_getI p52_14 (by first | rfl | assumption | exact (show isTale _ from by assumption).1 | exact (show isCamp _ _ from by assumption).1 | exact (show isRow _ _ from by assumption).1) (by rfl) ?_
  refine Gs_iconst p52_17 ?_
  refine Gs_iadd p52_18 ?_
  refine Gs_putI p52_19 (by first | rfl | assumption | exact (show isTale _ from by assumption).1 | exact (show isCamp _ _ from by assumption).1 | exact (show isRow _ _ from by assumption).1) (by rfl) (by rfl) (by rfl) ?_
  refine Gs_iload_n p52_22 rfl rfl ?_
  refine Gs_iret p52_23 rfl ⟨_, rfl, ?_⟩
  exact ⟨rfl, rfl⟩

set_option maxHeartbeats 1000000 in
set_option maxRecDepth 4000 in
theorem c_figureOf {X : vX} {s : St} {x : Int} (gx : rg x) : OkI X 0 53 [.int (iI x)] s (Is1 (fg x) s) := by
  refine Ok.of (r := vm_m53) (ls := [some (.int (iI x))]) rfl (Nat.le_of_ble_eq_true rfl) rfl (fun d hd => ?_)
  refine Gs_iload_n p53_0 rfl rfl ?_
  refine Gs_bipush p53_1 (by decide) ?_
  refine Gs_icmp_lt (tgt := 19) p53_3 (by rfl) (by first | assumption | exact ⟨by omega, by omega⟩ | (split <;> exact ⟨by omega, by omega⟩)) (by first | assumption | exact ⟨by omega, by omega⟩ | (split <;> exact ⟨by omega, by omega⟩)) (fun h3 => ?_) (fun h3 => ?_)
  · refine Gs_bipush p53_19 (by decide) ?_
    refine Gs_iret p53_21 rfl ⟨_, rfl, ?_⟩
    refine ⟨?_, rfl⟩
    unfold fg
    first | (rw [if_pos (by omega)]; done) | (rw [if_neg (by omega)]; done)
  · refine Gs_iload_n p53_6 rfl rfl ?_
    refine Gs_bipush p53_7 (by decide) ?_
    refine Gs_icmp_gt (tgt := 19) p53_9 (by rfl) (by first | assumption | exact ⟨by omega, by omega⟩ | (split <;> exact ⟨by omega, by omega⟩)) (by first | assumption | exact ⟨by omega, by omega⟩ | (split <;> exact ⟨by omega, by omega⟩)) (fun h9 => ?_) (fun h9 => ?_)
    · refine Gs_bipush p53_19 (by decide) ?_
      refine Gs_iret p53_21 rfl ⟨_, rfl, ?_⟩
      refine ⟨?_, rfl⟩
      unfold fg
      first | (rw [if_pos (by omega)]; done) | (rw [if_neg (by omega)]; done)
    · refine Gs_iload_n p53_12 rfl rfl ?_
      refine Gs_bipush p53_13 (by decide) ?_
      refine Gs_isub p53_15 ?_
      refine Gs_goto (tgt := 21) p53_16 (by rfl) ?_
      refine Gs_iret p53_21 rfl ⟨_, rfl, ?_⟩
      refine ⟨?_, rfl⟩
      unfold fg
      first | (rw [if_pos (by omega)]; done) | (rw [if_neg (by omega)]; done)

set_option maxHeartbeats 1000000 in
set_option maxRecDepth 4000 in
theorem c_readNumber {X : vX} {s : St} {ch : Int → Int} {p : Int} (t : RText s ch) (hp : vF s 54 4 = p) (p0 : 0 ≤ p) (p1 : p ≤ 1000000) : OkI X 1 51 [.ref 54] s (Is1 (nmV ch p) (sF s 54 4 (nmP ch p))) := by
  refine Ok.of (r := vm_m51) (ls := [some (.ref 54), none, none]) rfl (Nat.le_of_ble_eq_true rfl) rfl (fun d hd => ?_)
  obtain ⟨t1, t2, t3, t4⟩ := id t
  subst hp
  have b1 := t4 (vF s 54 4)
  have b2 := t4 (vF s 54 4 + 1)
  have f1 := fg_b (ch (vF s 54 4))
  have f2 := fg_b (ch (vF s 54 4 + 1))
  refine Gs_aload_n p51_0 rfl rfl ?_
  refine Gs_getR p51_1 (by first | rfl | assumption | exact (show isTale _ from by assumption).1 | exact (show isCamp _ _ from by assumption).1 | exact (show isRow _ _ from by assumption).1) (by rfl) ?_
  refine Gs_aload_n p51_4 rfl rfl ?_
  refine Gs_getI p51_5 (by first | rfl | assumption | exact (show isTale _ from by assumption).1 | exact (show isCamp _ _ from by assumption).1 | exact (show isRow _ _ from by assumption).1) (by rfl) ?_
  refine Gs_callV1I p51_8 (by rfl) (by rfl) (by rfl) (Nat.le_of_ble_eq_true rfl) (by decide) (c_aget (a := 2) row1 rfl ⟨by omega, by omega⟩ (by omega) (by omega)) (by omega) ?_
  rw [t3]
  refine Gs_callS1I p51_11 (by rfl) (Nat.le_of_ble_eq_true rfl) (by decide) (c_figureOf ⟨by omega, by omega⟩) (by omega) ?_
  refine Gs_ist1 p51_14 (by first | rfl | assumption) ?_
  refine Gs_aload_n p51_15 rfl rfl ?_
  refine Gs_getR p51_16 (by first | rfl | assumption | exact (show isTale _ from by assumption).1 | exact (show isCamp _ _ from by assumption).1 | exact (show isRow _ _ from by assumption).1) (by rfl) ?_
  refine Gs_aload_n p51_19 rfl rfl ?_
  refine Gs_getI p51_20 (by first | rfl | assumption | exact (show isTale _ from by assumption).1 | exact (show isCamp _ _ from by assumption).1 | exact (show isRow _ _ from by assumption).1) (by rfl) ?_
  refine Gs_iconst p51_23 ?_
  refine Gs_iadd p51_24 ?_
  refine Gs_callV1I p51_25 (by rfl) (by rfl) (by rfl) (Nat.le_of_ble_eq_true rfl) (by decide) (c_aget (a := 2) row1 rfl ⟨by omega, by omega⟩ (by omega) (by omega)) (by omega) ?_
  rw [t3]
  refine Gs_callS1I p51_28 (by rfl) (Nat.le_of_ble_eq_true rfl) (by decide) (c_figureOf ⟨by omega, by omega⟩) (by omega) ?_
  refine Gs_ist2 p51_31 (by first | rfl | assumption) ?_
  refine Gs_iload_n p51_32 rfl rfl ?_
  refine Gs_bipush p51_33 (by decide) ?_
  refine Gs_icmp_eq (tgt := 44) p51_35 (by rfl) (by first | assumption | exact ⟨by omega, by omega⟩ | (split <;> exact ⟨by omega, by omega⟩)) (by first | assumption | exact ⟨by omega, by omega⟩ | (split <;> exact ⟨by omega, by omega⟩)) (fun h35 => ?_) (fun h35 => ?_)
  · refine Gs_aload_n p51_44 rfl rfl ?_
    refine Gs_dup p51_45 rfl ?_
    refine Gs_getI p51_46 (by first | rfl | assumption | exact (show isTale _ from by assumption).1 | exact (show isCamp _ _ from by assumption).1 | exact (show isRow _ _ from by assumption).1) (by rfl) ?_
    refine Gs_iconst p51_49 ?_
    refine Gs_iadd p51_50 ?_
    refine Gs_putI p51_51 (by first | rfl | assumption | exact (show isTale _ from by assumption).1 | exact (show isCamp _ _ from by assumption).1 | exact (show isRow _ _ from by assumption).1) (by rfl) (by rfl) (by rfl) ?_
    refine Gs_iload_n p51_54 rfl rfl ?_
    refine Gs_iret p51_55 rfl ⟨_, rfl, ?_⟩
    unfold nmV nmP
    first
      | (rw [if_pos (show fg (ch (vF s 54 4)) = -4 by omega), if_pos (Or.inl (show fg (ch (vF s 54 4)) = -4 by omega))]; exact ⟨by omega, rfl⟩)
      | (rw [if_neg (show ¬ fg (ch (vF s 54 4)) = -4 by omega), if_pos (show fg (ch (vF s 54 4 + 1)) = -4 by omega), if_pos (Or.inr (show fg (ch (vF s 54 4 + 1)) = -4 by omega))]; exact ⟨rfl, rfl⟩)
      | (rw [if_neg (show ¬ fg (ch (vF s 54 4)) = -4 by omega), if_neg (show ¬ fg (ch (vF s 54 4 + 1)) = -4 by omega), if_neg (by omega)]; exact ⟨rfl, rfl⟩)
  · refine Gs_iload_n p51_38 rfl rfl ?_
    refine Gs_bipush p51_39 (by decide) ?_
    refine Gs_icmp_ne (tgt := 56) p51_41 (by rfl) (by first | assumption | exact ⟨by omega, by omega⟩ | (split <;> exact ⟨by omega, by omega⟩)) (by first | assumption | exact ⟨by omega, by omega⟩ | (split <;> exact ⟨by omega, by omega⟩)) (fun h41 => ?_) (fun h41 => ?_)
    · refine Gs_aload_n p51_56 rfl rfl ?_
      refine Gs_dup p51_57 rfl ?_
      refine Gs_getI p51_58 (by first | rfl | assumption | exact (show isTale _ from by assumption).1 | exact (show isCamp _ _ from by assumption).1 | exact (show isRow _ _ from by assumption).1) (by rfl) ?_
      refine Gs_iconst p51_61 ?_
      refine Gs_iadd p51_62 ?_
      refine Gs_putI p51_63 (by first | rfl | assumption | exact (show isTale _ from by assumption).1 | exact (show isCamp _ _ from by assumption).1 | exact (show isRow _ _ from by assumption).1) (by rfl) (by rfl) (by rfl) ?_
      refine Gs_bipush p51_66 (by decide) ?_
      refine Gs_iload_n p51_68 rfl rfl ?_
      refine Gs_imul p51_69 ?_
      refine Gs_iload_n p51_70 rfl rfl ?_
      refine Gs_iadd p51_71 ?_
      refine Gs_iret p51_72 rfl ⟨_, rfl, ?_⟩
      unfold nmV nmP
      first
        | (rw [if_pos (show fg (ch (vF s 54 4)) = -4 by omega), if_pos (Or.inl (show fg (ch (vF s 54 4)) = -4 by omega))]; exact ⟨by omega, rfl⟩)
        | (rw [if_neg (show ¬ fg (ch (vF s 54 4)) = -4 by omega), if_pos (show fg (ch (vF s 54 4 + 1)) = -4 by omega), if_pos (Or.inr (show fg (ch (vF s 54 4 + 1)) = -4 by omega))]; exact ⟨rfl, rfl⟩)
        | (rw [if_neg (show ¬ fg (ch (vF s 54 4)) = -4 by omega), if_neg (show ¬ fg (ch (vF s 54 4 + 1)) = -4 by omega), if_neg (by omega)]; exact ⟨rfl, rfl⟩)
    · refine Gs_aload_n p51_44 rfl rfl ?_
      refine Gs_dup p51_45 rfl ?_
      refine Gs_getI p51_46 (by first | rfl | assumption | exact (show isTale _ from by assumption).1 | exact (show isCamp _ _ from by assumption).1 | exact (show isRow _ _ from by assumption).1) (by rfl) ?_
      refine Gs_iconst p51_49 ?_
      refine Gs_iadd p51_50 ?_
      refine Gs_putI p51_51 (by first | rfl | assumption | exact (show isTale _ from by assumption).1 | exact (show isCamp _ _ from by assumption).1 | exact (show isRow _ _ from by assumption).1) (by rfl) (by rfl) (by rfl) ?_
      refine Gs_iload_n p51_54 rfl rfl ?_
      refine Gs_iret p51_55 rfl ⟨_, rfl, ?_⟩
      unfold nmV nmP
      first
        | (rw [if_pos (show fg (ch (vF s 54 4)) = -4 by omega), if_pos (Or.inl (show fg (ch (vF s 54 4)) = -4 by omega))]; exact ⟨by omega, rfl⟩)
        | (rw [if_neg (show ¬ fg (ch (vF s 54 4)) = -4 by omega), if_pos (show fg (ch (vF s 54 4 + 1)) = -4 by omega), if_pos (Or.inr (show fg (ch (vF s 54 4 + 1)) = -4 by omega))]; exact ⟨rfl, rfl⟩)
        | (rw [if_neg (show ¬ fg (ch (vF s 54 4)) = -4 by omega), if_neg (show ¬ fg (ch (vF s 54 4 + 1)) = -4 by omega), if_neg (by omega)]; exact ⟨rfl, rfl⟩)

set_option maxHeartbeats 1000000 in
set_option maxRecDepth 4000 in
theorem c_readFigures {X : vX} {s : St} {ch : Int → Int} {p : Int} (t : RText s ch) (hp : vF s 54 4 = p) (p0 : 0 ≤ p) (p1 : p ≤ 100000) : OkI X 2 49 [.ref 54, .int (iI 4)] s (fun z t => NumFr s t ∧ ((z = 1 ∧ figOk ch p ∧ vF t 54 4 = p + 5 ∧ vF t 55 1 = 4 ∧ ∀ j : Int, 0 ≤ j → j < 4 → vA t 56 j = fg (ch (p + j))) ∨ (z = 0 ∧ ¬ figOk ch p))) := by
  refine Ok.of (r := vm_m49) (ls := [some (.ref 54), some (.int (iI 4)), none, none]) rfl (Nat.le_of_ble_eq_true rfl) rfl (fun d hd => ?_)
  refine Gs_aload_n p49_0 rfl rfl ?_
  refine Gs_getR p49_1 (by first | rfl | assumption | exact (show isTale _ from by assumption).1 | exact (show isCamp _ _ from by assumption).1 | exact (show isRow _ _ from by assumption).1) (by rfl) ?_
  refine Gs_callV0W p49_4 (by rfl) (by rfl) (by rfl) (Nat.le_of_ble_eq_true rfl) (by decide) (c_clear row55) (by omega) ?_
  refine Gs_iconst p49_7 ?_
  refine Gs_ist2 p49_8 (by first | rfl | assumption) ?_
  refine dn (n := (4 : Int)) (P := fun i => ∀ (y : St) (b3 : Option Value), NumFr s y → vF y 54 4 = p + i → vF y 55 1 = i → (∀ j : Int, 0 ≤ j → j < i → vA y 56 j = fg (ch (p + j)) ∧ ¬ fg (ch (p + j)) = -4) → Gs X d 49 9 [some (.ref 54), some (.int (iI 4)), some (.int (iI i)), b3] [] (y) (fun vv yy => ∃ zz : Int, vv = some (.int (iI zz)) ∧ (fun z t => NumFr s t ∧ ((z = 1 ∧ figOk ch p ∧ vF t 54 4 = p + 5 ∧ vF t 55 1 = 4 ∧ ∀ j : Int, 0 ≤ j → j < 4 → vA t 56 j = fg (ch (p + j))) ∨ (z = 0 ∧ ¬ figOk ch p))) zz yy)) (by omega) (fun i hi hin ih => ?_) ?_ _ none ⟨fun _ _ _ => rfl, fun a k x1 _ => by rw [vF_sF, if_neg x1]⟩ (by rw [vF_sF, if_neg (by omega), hp]; omega) rfl (fun j j0 j1 => absurd j1 (by omega))
  · show ∀ (y : St) (b3 : Option Value), NumFr s y → vF y 54 4 = p + i → vF y 55 1 = i → (∀ j : Int, 0 ≤ j → j < i → vA y 56 j = fg (ch (p + j)) ∧ ¬ fg (ch (p + j)) = -4) → Gs X d 49 9 [some (.ref 54), some (.int (iI 4)), some (.int (iI i)), b3] [] (y) _
    intro y b3 o h4 h5 hj
    have t2 := o.txt t
    have cb := t2.2.2.2 (p + i)
    have fb := fg_b (ch (p + i))
    refine Gs_iload_n p49_9 rfl rfl ?_
    refine Gs_iload_n p49_10 rfl rfl ?_
    refine Gs_icmp_ge (tgt := 44) p49_11 (by rfl) (by first | assumption | exact ⟨by omega, by omega⟩ | (split <;> exact ⟨by omega, by omega⟩)) (by first | assumption | exact ⟨by omega, by omega⟩ | (split <;> exact ⟨by omega, by omega⟩)) (fun hc11 => absurd ‹_› (by first | omega | assumption)) (fun hc11 => ?_)
    refine Gs_aload_n p49_14 rfl rfl ?_
    refine Gs_callV0I p49_15 (by rfl) (by rfl) (by rfl) (Nat.le_of_ble_eq_true rfl) (by decide) (c_take t2 h4 (by omega) (by omega)) (by omega) ?_
    refine Gs_callS1I p49_18 (by rfl) (Nat.le_of_ble_eq_true rfl) (by decide) (c_figureOf ⟨by omega, by omega⟩) (by omega) ?_
    refine Gs_ist3 p49_21 (by first | rfl | assumption) ?_
    refine Gs_iload_n p49_22 rfl rfl ?_
    refine Gs_bipush p49_23 (by decide) ?_
    refine Gs_icmp_ne (tgt := 30) p49_25 (by rfl) (by first | assumption | exact ⟨by omega, by omega⟩ | (split <;> exact ⟨by omega, by omega⟩)) (by first | assumption | exact ⟨by omega, by omega⟩ | (split <;> exact ⟨by omega, by omega⟩)) (fun h25 => ?_) (fun h25 => ?_)
    · refine Gs_aload_n p49_30 rfl rfl ?_
      refine Gs_getR p49_31 (by first | rfl | assumption | exact (show isTale _ from by assumption).1 | exact (show isCamp _ _ from by assumption).1 | exact (show isRow _ _ from by assumption).1) (by rfl) ?_
      refine Gs_iload_n p49_34 rfl rfl ?_
      refine Gs_callV1W p49_35 (by rfl) (by rfl) (by rfl) (Nat.le_of_ble_eq_true rfl) (by decide) (c_aadd (a := 56) row55 rfl (show 0 ≤ vF y 55 1 by omega) (show vF y 55 1 < ((6 : Nat) : Int) by omega)) (by omega) ?_
      refine Gs_iinc2 (b52 := none) p49_38 (by first | rfl | assumption) ?_
      refine Gs_goto (tgt := 9) p49_41 (by rfl) ?_
      refine ih _ _ ⟨fun a z x1 => by rw [vA_sF, vA_sA, if_neg (fun q => x1 q.1)]; exact o.1 a z x1, fun a k x1 x2 => by rw [vF_sF, if_neg x1, vF_sA, vF_sF, if_neg x2]; exact o.2 a k x1 x2⟩ ?_ ?_ (fun j j0 j1 => ?_)
      · rw [vF_sF, if_neg (by omega), vF_sA, vF_sF, if_pos ⟨rfl, rfl⟩]; omega
      · rw [vF_sF, if_pos ⟨rfl, rfl⟩]; show vF y 55 1 + 1 = i + 1; omega
      · show (if (56 : Nat) = 56 ∧ j = vF y 55 1 then fg (ch (p + i)) else vA y 56 j) = _ ∧ _
        by_cases ej : j = i
        · rw [if_pos ⟨rfl, by omega⟩, ej]; exact ⟨rfl, by omega⟩
        · rw [if_neg (by omega)]; exact hj j j0 (by omega)
    · refine Gs_iconst p49_28 ?_
      refine Gs_zret p49_29 rfl (by first | exact Or.inl rfl | exact Or.inr rfl | (split <;> first | exact Or.inl rfl | exact Or.inr rfl)) ⟨_, rfl, ?_⟩
      refine ⟨⟨o.1, fun a k x1 x2 => by rw [vF_sF, if_neg x2]; exact o.2 a k x1 x2⟩, Or.inr ⟨rfl, fun q => ?_⟩⟩
      have := q.1 i.toNat (by omega)
      rw [show ((i.toNat : Nat) : Int) = i by omega] at this
      omega
  · show ∀ (y : St) (b3 : Option Value), NumFr s y → vF y 54 4 = p + ((4 : Int)) → vF y 55 1 = ((4 : Int)) → (∀ j : Int, 0 ≤ j → j < ((4 : Int)) → vA y 56 j = fg (ch (p + j)) ∧ ¬ fg (ch (p + j)) = -4) → Gs X d 49 9 [some (.ref 54), some (.int (iI 4)), some (.int (iI ((4 : Int)))), b3] [] (y) _
    intro y b3 o h4 h5 hj
    have t2 := o.txt t
    have cb := t2.2.2.2 (p + 4)
    refine Gs_iload_n p49_9 rfl rfl ?_
    refine Gs_iload_n p49_10 rfl rfl ?_
    refine Gs_icmp_ge (tgt := 44) p49_11 (by rfl) (by first | assumption | exact ⟨by omega, by omega⟩ | (split <;> exact ⟨by omega, by omega⟩)) (by first | assumption | exact ⟨by omega, by omega⟩ | (split <;> exact ⟨by omega, by omega⟩)) (fun hc11 => ?_) (fun hc11 => absurd ‹_› (by first | omega | assumption))
    refine Gs_aload_n p49_44 rfl rfl ?_
    refine Gs_callV0I p49_45 (by rfl) (by rfl) (by rfl) (Nat.le_of_ble_eq_true rfl) (by decide) (c_take t2 h4 (by omega) (by omega)) (by omega) ?_
    refine Gs_bipush p49_48 (by decide) ?_
    refine Gs_icmp_ne (tgt := 57) p49_50 (by rfl) (by first | assumption | exact ⟨by omega, by omega⟩ | (split <;> exact ⟨by omega, by omega⟩)) (by first | assumption | exact ⟨by omega, by omega⟩ | (split <;> exact ⟨by omega, by omega⟩)) (fun h50 => ?_) (fun h50 => ?_)
    · refine Gs_iconst p49_57 ?_
      refine Gs_zret p49_58 rfl (by first | exact Or.inl rfl | exact Or.inr rfl | (split <;> first | exact Or.inl rfl | exact Or.inr rfl)) ⟨_, rfl, ?_⟩
      refine ⟨⟨o.1, fun a k x1 x2 => by rw [vF_sF, if_neg x2]; exact o.2 a k x1 x2⟩, ?_⟩
      first
        | exact Or.inl ⟨rfl, ⟨fun j hj' => (hj j (by omega) (by omega)).2, by omega⟩, by rw [vF_sF, if_pos ⟨rfl, rfl⟩]; omega, by rw [vF_sF, if_neg (by omega)]; exact h5, fun j j0 j1 => (hj j j0 j1).1⟩
        | exact Or.inr ⟨rfl, fun q => by have := q.2; omega⟩
    · refine Gs_iconst p49_53 ?_
      refine Gs_goto (tgt := 58) p49_54 (by rfl) ?_
      refine Gs_zret p49_58 rfl (by first | exact Or.inl rfl | exact Or.inr rfl | (split <;> first | exact Or.inl rfl | exact Or.inr rfl)) ⟨_, rfl, ?_⟩
      refine ⟨⟨o.1, fun a k x1 x2 => by rw [vF_sF, if_neg x2]; exact o.2 a k x1 x2⟩, ?_⟩
      first
        | exact Or.inl ⟨rfl, ⟨fun j hj' => (hj j (by omega) (by omega)).2, by omega⟩, by rw [vF_sF, if_pos ⟨rfl, rfl⟩]; omega, by rw [vF_sF, if_neg (by omega)]; exact h5, fun j j0 j1 => (hj j j0 j1).1⟩
        | exact Or.inr ⟨rfl, fun q => by have := q.2; omega⟩

set_option maxHeartbeats 2000000 in
set_option maxRecDepth 4000 in
theorem c_readNumbers {X : vX} {s : St} {ch : Int → Int} {p n : Int} (t : RText s ch) (hp : vF s 54 4 = p) (p0 : 0 ≤ p) (p1 : p ≤ 100000) (n1 : 1 ≤ n) (n6 : n ≤ 6) : OkI X 2 50 [.ref 54, .int (iI n)] s (fun z t => NumFr s t ∧ ((z = 1 ∧ nOk ch p n.toNat ∧ vF t 54 4 = pS ch p n.toNat ∧ vF t 55 1 = n ∧ ∀ j : Nat, (j : Int) < n → vA t 56 j = nmV ch (pS ch p j)) ∨ (z = 0 ∧ ¬ nOk ch p n.toNat))) := by
  refine Ok.of (r := vm_m50) (ls := [some (.ref 54), some (.int (iI n)), none, none, none]) rfl (Nat.le_of_ble_eq_true rfl) rfl (fun d hd => ?_)
  refine Gs_aload_n p50_0 rfl rfl ?_
  refine Gs_getR p50_1 (by first | rfl | assumption | exact (show isTale _ from by assumption).1 | exact (show isCamp _ _ from by assumption).1 | exact (show isRow _ _ from by assumption).1) (by rfl) ?_
  refine Gs_callV0W p50_4 (by rfl) (by rfl) (by rfl) (Nat.le_of_ble_eq_true rfl) (by decide) (c_clear row55) (by omega) ?_
  refine Gs_iconst p50_7 ?_
  refine Gs_ist2 p50_8 (by first | rfl | assumption) ?_
  refine dn (n := n) (P := fun i => ∀ (y : St) (b3 b4 : Option Value), NumFr s y → vF y 54 4 = pS ch p i.toNat → vF y 55 1 = i → (∀ j : Nat, (j : Int) < i → vA y 56 j = nmV ch (pS ch p j) ∧ ¬ nmV ch (pS ch p j) = -4 ∧ ch (nmP ch (pS ch p j)) = (if j + 1 < n.toNat then 44 else 59)) → Gs X d 50 9 [some (.ref 54), some (.int (iI n)), some (.int (iI i)), b3, b4] [] (y) (fun vv yy => ∃ zz : Int, vv = some (.int (iI zz)) ∧ (fun z t => NumFr s t ∧ ((z = 1 ∧ nOk ch p n.toNat ∧ vF t 54 4 = pS ch p n.toNat ∧ vF t 55 1 = n ∧ ∀ j : Nat, (j : Int) < n → vA t 56 j = nmV ch (pS ch p j)) ∨ (z = 0 ∧ ¬ nOk ch p n.toNat))) zz yy)) (by omega) (fun i hi hin ih => ?_) ?_ _ none none ⟨fun _ _ _ => rfl, fun a k x1 _ => by rw [vF_sF, if_neg x1]⟩ (by rw [vF_sF, if_neg (by omega), hp]; rfl) rfl (fun j j1 => absurd j1 (by omega))
  · show ∀ (y : St) (b3 b4 : Option Value), NumFr s y → vF y 54 4 = pS ch p i.toNat → vF y 55 1 = i → (∀ j : Nat, (j : Int) < i → vA y 56 j = nmV ch (pS ch p j) ∧ ¬ nmV ch (pS ch p j) = -4 ∧ ch (nmP ch (pS ch p j)) = (if j + 1 < n.toNat then 44 else 59)) → Gs X d 50 9 [some (.ref 54), some (.int (iI n)), some (.int (iI i)), b3, b4] [] (y) _
    intro y b3 b4 o h4 h5 hj
    have t2 := o.txt t
    have pb := pS_b ch p i.toNat
    have qb := nmP_b ch (pS ch p i.toNat)
    have cb := t2.2.2.2 (nmP ch (pS ch p i.toNat))
    have vb := nmV_b ch (pS ch p i.toNat)
    have es : pS ch p (i + 1).toNat = nmP ch (pS ch p i.toNat) + 1 := by rw [show (i + 1).toNat = i.toNat + 1 by omega]; rfl
    refine Gs_iload_n p50_9 rfl rfl ?_
    refine Gs_iload_n p50_10 rfl rfl ?_
    refine Gs_icmp_ge (tgt := 66) p50_11 (by rfl) (by first | assumption | exact ⟨by omega, by omega⟩ | (split <;> exact ⟨by omega, by omega⟩)) (by first | assumption | exact ⟨by omega, by omega⟩ | (split <;> exact ⟨by omega, by omega⟩)) (fun hc11 => absurd ‹_› (by first | omega | assumption)) (fun hc11 => ?_)
    refine Gs_aload_n p50_14 rfl rfl ?_
    refine Gs_callV0I p50_15 (by rfl) (by rfl) (by rfl) (Nat.le_of_ble_eq_true rfl) (by decide) (c_readNumber t2 h4 (by omega) (by omega)) (by omega) ?_
    refine Gs_ist3 p50_18 (by first | rfl | assumption) ?_
    refine Gs_iload_n p50_19 rfl rfl ?_
    refine Gs_iload_n p50_20 rfl rfl ?_
    refine Gs_iconst p50_21 ?_
    refine Gs_isub p50_22 ?_
    refine Gs_icmp_ge (tgt := 31) p50_23 (by rfl) (by first | assumption | exact ⟨by omega, by omega⟩ | (split <;> exact ⟨by omega, by omega⟩)) (by first | assumption | exact ⟨by omega, by omega⟩ | (split <;> exact ⟨by omega, by omega⟩)) (fun h23 => ?_) (fun h23 => ?_)
    · refine Gs_bipush p50_31 (by decide) ?_
      refine Gs_ist4 p50_33 (by first | rfl | assumption) ?_
      refine Gs_iload_n p50_35 rfl rfl ?_
      refine Gs_bipush p50_36 (by decide) ?_
      refine Gs_icmp_eq (tgt := 50) p50_38 (by rfl) (by first | assumption | exact ⟨by omega, by omega⟩ | (split <;> exact ⟨by omega, by omega⟩)) (by first | assumption | exact ⟨by omega, by omega⟩ | (split <;> exact ⟨by omega, by omega⟩)) (fun h38 => ?_) (fun h38 => ?_)
      · refine Gs_iconst p50_50 ?_
        refine Gs_zret p50_51 rfl (by first | exact Or.inl rfl | exact Or.inr rfl | (split <;> first | exact Or.inl rfl | exact Or.inr rfl)) ⟨_, rfl, ?_⟩
        first
          | (refine ⟨⟨o.1, fun a k x1 x2 => by rw [vF_sF, if_neg x2]; exact o.2 a k x1 x2⟩, Or.inr ⟨rfl, fun q => ?_⟩⟩
             have := q i.toNat (by omega)
             exact this.1 (by omega))
          | (refine ⟨⟨o.1, fun a k x1 x2 => by rw [vF_sF, if_neg x2, vF_sF, if_neg x2]; exact o.2 a k x1 x2⟩, Or.inr ⟨rfl, fun q => ?_⟩⟩
             have := (q i.toNat (by omega)).2
             split at this <;> omega)
      · refine Gs_aload_n p50_41 rfl rfl ?_
        refine Gs_callV0I p50_42 (by rfl) (by rfl) (by rfl) (Nat.le_of_ble_eq_true rfl) (by decide) (c_take (t2.cong (by rw [vF_sF, if_neg (by omega)]) (fun _ => rfl)) (vF_sF y 54 54 4 4 (nmP ch (pS ch p i.toNat)) |>.trans (if_pos ⟨rfl, rfl⟩)) (by omega) (by omega)) (by omega) ?_
        refine Gs_iload p50_45 rfl rfl ?_
        refine Gs_icmp_eq (tgt := 52) p50_47 (by rfl) (by first | assumption | exact ⟨by omega, by omega⟩ | (split <;> exact ⟨by omega, by omega⟩)) (by first | assumption | exact ⟨by omega, by omega⟩ | (split <;> exact ⟨by omega, by omega⟩)) (fun h47 => ?_) (fun h47 => ?_)
        · refine Gs_aload_n p50_52 rfl rfl ?_
          refine Gs_getR p50_53 (by first | rfl | assumption | exact (show isTale _ from by assumption).1 | exact (show isCamp _ _ from by assumption).1 | exact (show isRow _ _ from by assumption).1) (by rfl) ?_
          refine Gs_iload_n p50_56 rfl rfl ?_
          refine Gs_callV1W p50_57 (by rfl) (by rfl) (by rfl) (Nat.le_of_ble_eq_true rfl) (by decide) (c_aadd (a := 56) row55 rfl (show 0 ≤ vF y 55 1 by omega) (show vF y 55 1 < ((6 : Nat) : Int) by omega)) (by omega) ?_
          refine Gs_iinc2 (b52 := none) p50_60 (by first | rfl | assumption) ?_
          refine Gs_goto (tgt := 9) p50_63 (by rfl) ?_
          refine ih _ _ _ ⟨fun a z x1 => by rw [vA_sF, vA_sA, if_neg (fun q => x1 q.1)]; exact o.1 a z x1, fun a k x1 x2 => by rw [vF_sF, if_neg x1, vF_sA, vF_sF, if_neg x2, vF_sF, if_neg x2]; exact o.2 a k x1 x2⟩ ?_ ?_ (fun j j1 => ?_)
          · rw [vF_sF, if_neg (by omega), vF_sA, vF_sF, if_pos ⟨rfl, rfl⟩, es]
          · rw [vF_sF, if_pos ⟨rfl, rfl⟩]; show vF y 55 1 + 1 = i + 1; omega
          · show (if (56 : Nat) = 56 ∧ (j : Int) = vF y 55 1 then nmV ch (pS ch p i.toNat) else vA y 56 j) = _ ∧ _
            by_cases ej : (j : Int) = i
            · rw [if_pos ⟨rfl, by omega⟩, show j = i.toNat by omega]
              refine ⟨rfl, by omega, ?_⟩
              split <;> omega
            · rw [if_neg (by omega)]; exact hj j (by omega)
        · refine Gs_iconst p50_50 ?_
          refine Gs_zret p50_51 rfl (by first | exact Or.inl rfl | exact Or.inr rfl | (split <;> first | exact Or.inl rfl | exact Or.inr rfl)) ⟨_, rfl, ?_⟩
          first
            | (refine ⟨⟨o.1, fun a k x1 x2 => by rw [vF_sF, if_neg x2]; exact o.2 a k x1 x2⟩, Or.inr ⟨rfl, fun q => ?_⟩⟩
               have := q i.toNat (by omega)
               exact this.1 (by omega))
            | (refine ⟨⟨o.1, fun a k x1 x2 => by rw [vF_sF, if_neg x2, vF_sF, if_neg x2]; exact o.2 a k x1 x2⟩, Or.inr ⟨rfl, fun q => ?_⟩⟩
               have := (q i.toNat (by omega)).2
               split at this <;> omega)
    · refine Gs_bipush p50_26 (by decide) ?_
      refine Gs_goto (tgt := 33) p50_28 (by rfl) ?_
      refine Gs_ist4 p50_33 (by first | rfl | assumption) ?_
      refine Gs_iload_n p50_35 rfl rfl ?_
      refine Gs_bipush p50_36 (by decide) ?_
      refine Gs_icmp_eq (tgt := 50) p50_38 (by rfl) (by first | assumption | exact ⟨by omega, by omega⟩ | (split <;> exact ⟨by omega, by omega⟩)) (by first | assumption | exact ⟨by omega, by omega⟩ | (split <;> exact ⟨by omega, by omega⟩)) (fun h38 => ?_) (fun h38 => ?_)
      · refine Gs_iconst p50_50 ?_
        refine Gs_zret p50_51 rfl (by first | exact Or.inl rfl | exact Or.inr rfl | (split <;> first | exact Or.inl rfl | exact Or.inr rfl)) ⟨_, rfl, ?_⟩
        first
          | (refine ⟨⟨o.1, fun a k x1 x2 => by rw [vF_sF, if_neg x2]; exact o.2 a k x1 x2⟩, Or.inr ⟨rfl, fun q => ?_⟩⟩
             have := q i.toNat (by omega)
             exact this.1 (by omega))
          | (refine ⟨⟨o.1, fun a k x1 x2 => by rw [vF_sF, if_neg x2, vF_sF, if_neg x2]; exact o.2 a k x1 x2⟩, Or.inr ⟨rfl, fun q => ?_⟩⟩
             have := (q i.toNat (by omega)).2
             split at this <;> omega)
      · refine Gs_aload_n p50_41 rfl rfl ?_
        refine Gs_callV0I p50_42 (by rfl) (by rfl) (by rfl) (Nat.le_of_ble_eq_true rfl) (by decide) (c_take (t2.cong (by rw [vF_sF, if_neg (by omega)]) (fun _ => rfl)) (vF_sF y 54 54 4 4 (nmP ch (pS ch p i.toNat)) |>.trans (if_pos ⟨rfl, rfl⟩)) (by omega) (by omega)) (by omega) ?_
        refine Gs_iload p50_45 rfl rfl ?_
        refine Gs_icmp_eq (tgt := 52) p50_47 (by rfl) (by first | assumption | exact ⟨by omega, by omega⟩ | (split <;> exact ⟨by omega, by omega⟩)) (by first | assumption | exact ⟨by omega, by omega⟩ | (split <;> exact ⟨by omega, by omega⟩)) (fun h47 => ?_) (fun h47 => ?_)
        · refine Gs_aload_n p50_52 rfl rfl ?_
          refine Gs_getR p50_53 (by first | rfl | assumption | exact (show isTale _ from by assumption).1 | exact (show isCamp _ _ from by assumption).1 | exact (show isRow _ _ from by assumption).1) (by rfl) ?_
          refine Gs_iload_n p50_56 rfl rfl ?_
          refine Gs_callV1W p50_57 (by rfl) (by rfl) (by rfl) (Nat.le_of_ble_eq_true rfl) (by decide) (c_aadd (a := 56) row55 rfl (show 0 ≤ vF y 55 1 by omega) (show vF y 55 1 < ((6 : Nat) : Int) by omega)) (by omega) ?_
          refine Gs_iinc2 (b52 := none) p50_60 (by first | rfl | assumption) ?_
          refine Gs_goto (tgt := 9) p50_63 (by rfl) ?_
          refine ih _ _ _ ⟨fun a z x1 => by rw [vA_sF, vA_sA, if_neg (fun q => x1 q.1)]; exact o.1 a z x1, fun a k x1 x2 => by rw [vF_sF, if_neg x1, vF_sA, vF_sF, if_neg x2, vF_sF, if_neg x2]; exact o.2 a k x1 x2⟩ ?_ ?_ (fun j j1 => ?_)
          · rw [vF_sF, if_neg (by omega), vF_sA, vF_sF, if_pos ⟨rfl, rfl⟩, es]
          · rw [vF_sF, if_pos ⟨rfl, rfl⟩]; show vF y 55 1 + 1 = i + 1; omega
          · show (if (56 : Nat) = 56 ∧ (j : Int) = vF y 55 1 then nmV ch (pS ch p i.toNat) else vA y 56 j) = _ ∧ _
            by_cases ej : (j : Int) = i
            · rw [if_pos ⟨rfl, by omega⟩, show j = i.toNat by omega]
              refine ⟨rfl, by omega, ?_⟩
              split <;> omega
            · rw [if_neg (by omega)]; exact hj j (by omega)
        · refine Gs_iconst p50_50 ?_
          refine Gs_zret p50_51 rfl (by first | exact Or.inl rfl | exact Or.inr rfl | (split <;> first | exact Or.inl rfl | exact Or.inr rfl)) ⟨_, rfl, ?_⟩
          first
            | (refine ⟨⟨o.1, fun a k x1 x2 => by rw [vF_sF, if_neg x2]; exact o.2 a k x1 x2⟩, Or.inr ⟨rfl, fun q => ?_⟩⟩
               have := q i.toNat (by omega)
               exact this.1 (by omega))
            | (refine ⟨⟨o.1, fun a k x1 x2 => by rw [vF_sF, if_neg x2, vF_sF, if_neg x2]; exact o.2 a k x1 x2⟩, Or.inr ⟨rfl, fun q => ?_⟩⟩
               have := (q i.toNat (by omega)).2
               split at this <;> omega)
  · show ∀ (y : St) (b3 b4 : Option Value), NumFr s y → vF y 54 4 = pS ch p (n).toNat → vF y 55 1 = (n) → (∀ j : Nat, (j : Int) < (n) → vA y 56 j = nmV ch (pS ch p j) ∧ ¬ nmV ch (pS ch p j) = -4 ∧ ch (nmP ch (pS ch p j)) = (if j + 1 < n.toNat then 44 else 59)) → Gs X d 50 9 [some (.ref 54), some (.int (iI n)), some (.int (iI (n))), b3, b4] [] (y) _
    intro y b3 b4 o h4 h5 hj
    refine Gs_iload_n p50_9 rfl rfl ?_
    refine Gs_iload_n p50_10 rfl rfl ?_
    refine Gs_icmp_ge (tgt := 66) p50_11 (by rfl) (by first | assumption | exact ⟨by omega, by omega⟩ | (split <;> exact ⟨by omega, by omega⟩)) (by first | assumption | exact ⟨by omega, by omega⟩ | (split <;> exact ⟨by omega, by omega⟩)) (fun hc11 => ?_) (fun hc11 => absurd ‹_› (by first | omega | assumption))
    refine Gs_iconst p50_66 ?_
    refine Gs_zret p50_67 rfl (by first | exact Or.inl rfl | exact Or.inr rfl | (split <;> first | exact Or.inl rfl | exact Or.inr rfl)) ⟨_, rfl, ?_⟩
    exact ⟨o, Or.inl ⟨rfl, fun i hi => (hj i (by omega)).2, h4, h5, fun j hj' => (hj j hj').1⟩⟩
