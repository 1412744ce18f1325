/-! the reader, the reference's side -/
def hM (ch : Int → Int) (p : Int) : Int := if ch p = -4 then -1 else ch p
def MTx (u : St) (ch : Int → Int) (n : Int) : Prop := vF u 95 11 = n ∧ 0 ≤ n ∧ n ≤ 200 ∧ (∀ p, 0 ≤ p → p < n → vA u 103 p = ch p ∧ 32 ≤ ch p) ∧ (∀ p, n ≤ p → ch p = -4) ∧ ∀ p, -4 ≤ ch p ∧ ch p ≤ 126
theorem MTx.cong {u t : St} {ch : Int → Int} {n : Int} (h : MTx u ch n) (e1 : vF t 95 11 = vF u 95 11) (e2 : ∀ z, vA t 103 z = vA u 103 z) : MTx t ch n := by unfold MTx at h ⊢; simp only [e1, e2]; exact h
/-- only the two small fields are changed -/
def FrP (s u : St) : Prop := (∀ a z, vA u a z = vA s a z) ∧ (∀ a k, ¬ (a = 95 ∧ (k = 12 ∨ k = 13)) → vF u a k = vF s a k)
theorem FrP.trans {s t u : St} (h : FrP s t) (g : FrP t u) : FrP s u := ⟨fun a z => (g.1 a z).trans (h.1 a z), fun a k e => (g.2 a k e).trans (h.2 a k e)⟩
theorem FrP.rfl' {s : St} : FrP s s := ⟨fun _ _ => rfl, fun _ _ _ => rfl⟩
theorem FrP.txt {s t : St} {ch : Int → Int} {n : Int} (h : FrP s t) (g : MTx s ch n) : MTx t ch n := g.cong (h.2 _ _ (by decide)) (fun z => h.1 _ z)
def FrM (s u : St) : Prop := (∀ a z, a ≠ 97 → vA u a z = vA s a z) ∧ (∀ a k, ¬ (a = 95 ∧ (k = 12 ∨ k = 13)) → vF u a k = vF s a k)
theorem FrM.trans {s t u : St} (h : FrM s t) (g : FrM t u) : FrM s u := ⟨fun a z e => (g.1 a z e).trans (h.1 a z e), fun a k e => (g.2 a k e).trans (h.2 a k e)⟩
theorem FrP.m {s t : St} (h : FrP s t) : FrM s t := ⟨fun a z _ => h.1 a z, h.2⟩
theorem FrM.txt {s t : St} {ch : Int → Int} {n : Int} (h : FrM s t) (g : MTx s ch n) : MTx t ch n := g.cong (h.2 _ _ (by decide)) (fun z => h.1 _ z (by decide))
def RM (u : St) (A : AS) : Prop := (vA u 97 0 = A.L ∧ vA u 97 1 = A.R ∧ vA u 97 2 = A.N) ∧ (∀ j, 0 ≤ j → j < 4 * A.L → vA u 97 (3 + j) = A.nx j) ∧ (∀ j, 0 ≤ j → j < A.R → vA u 97 (39 + j) = A.ra j) ∧ ∀ k, 0 ≤ k → k < A.N → vA u 97 (51 + k) = A.cm k 0 ∧ vA u 97 (47 + k) = A.cm k 1 ∧ ∀ w, 0 ≤ w → w < 4 → vA u 97 (55 + 4 * k + w) = A.cm k (2 + w)
theorem RM.cong {u t : St} {A : AS} (h : RM u A) (e : ∀ z, vA t 97 z = vA u 97 z) : RM t A := by unfold RM at h ⊢; simp only [e]; exact h
theorem hM_fig {ch : Int → Int} {p : Int} (h : ¬ fg (hM ch p) = -4) : hM ch p = ch p ∧ fg (ch p) = ch p - 48 ∧ 48 ≤ ch p ∧ ch p ≤ 57 := by
  unfold hM at h ⊢
  by_cases c : ch p = -4
  · rw [if_pos c] at h; exact absurd rfl h
  · rw [if_neg c] at h ⊢
    unfold fg at h ⊢
    by_cases b : 48 ≤ ch p ∧ ch p ≤ 57
    · rw [if_pos b]; exact ⟨rfl, rfl, b.1, b.2⟩
    · rw [if_neg b] at h; exact absurd rfl h
theorem hM_no {ch : Int → Int} {p : Int} (h : fg (hM ch p) = -4) : fg (ch p) = -4 := by
  unfold hM at h
  by_cases c : ch p = -4
  · rw [c]; rfl
  · rw [if_neg c] at h; exact h
theorem hM_b {ch : Int → Int} {p : Int} (h : -4 ≤ ch p ∧ ch p ≤ 126) : -4 ≤ hM ch p ∧ hM ch p ≤ 126 ∧ ∀ c, 0 ≤ c → (hM ch p = c → ch p = c) ∧ (ch p = c → hM ch p = c) := by
  unfold hM
  by_cases c : ch p = -4
  · rw [if_pos c]; exact ⟨by omega, by omega, fun x hx => ⟨fun q => by omega, fun q => by omega⟩⟩
  · rw [if_neg c]; exact ⟨h.1, h.2, fun x hx => ⟨id, id⟩⟩
/-- figures packed, and unpacked -/
def pkG (d : Nat → Int) : Nat → Int
  | 0 => 0
  | j + 1 => 10 * pkG d j + d j
def qt (x : Int) : Nat → Int
  | 0 => x
  | j + 1 => qt x j / 10
theorem qt_b {x : Int} (h0 : 0 ≤ x) (h1 : x ≤ 9999) (j : Nat) : 0 ≤ qt x j ∧ qt x j ≤ 9999 := by
  induction j with
  | zero => exact ⟨h0, h1⟩
  | succ j ih => show 0 ≤ qt x j / 10 ∧ qt x j / 10 ≤ 9999; omega
theorem pkG_b {d : Nat → Int} (hd : ∀ i, i < 4 → 0 ≤ d i ∧ d i ≤ 9) : 0 ≤ pkG d 4 ∧ pkG d 4 ≤ 9999 := by
  have := hd 0 (by omega)
  have := hd 1 (by omega)
  have := hd 2 (by omega)
  have := hd 3 (by omega)
  show 0 ≤ 10 * (10 * (10 * (10 * 0 + d 0) + d 1) + d 2) + d 3 ∧ 10 * (10 * (10 * (10 * 0 + d 0) + d 1) + d 2) + d 3 ≤ 9999
  omega
theorem qt_pk {d : Nat → Int} (hd : ∀ i, i < 4 → 0 ≤ d i ∧ d i ≤ 9) (j : Nat) (hj : j < 4) : qt (pkG d 4) j % 10 = d (3 - j) := by
  have := hd 0 (by omega)
  have := hd 1 (by omega)
  have := hd 2 (by omega)
  have := hd 3 (by omega)
  have e : pkG d 4 = 10 * (10 * (10 * (10 * 0 + d 0) + d 1) + d 2) + d 3 := rfl
  have e1 : pkG d 4 / 10 = 10 * (10 * (10 * 0 + d 0) + d 1) + d 2 := by omega
  have e2 : pkG d 4 / 10 / 10 = 10 * (10 * 0 + d 0) + d 1 := by omega
  have e3 : pkG d 4 / 10 / 10 / 10 = d 0 := by omega
  match j, hj with
  | 0, _ => show pkG d 4 % 10 = d 3; omega
  | 1, _ => show pkG d 4 / 10 % 10 = d 2; rw [e1]; omega
  | 2, _ => show pkG d 4 / 10 / 10 % 10 = d 1; rw [e2]; omega
  | 3, _ => show pkG d 4 / 10 / 10 / 10 % 10 = d 0; rw [e3]; omega
set_option maxHeartbeats 1000000 in
set_option maxRecDepth 4000 in
theorem c_here {X : vX} {s : St} {ch : Int → Int} {n p : Int} (t : MTx s ch n) (hp : vF s 95 12 = p) (p0 : 0 ≤ p) (p1 : p ≤ 1000000) : OkI X 0 136 [.ref 95] s (Is1 (hM ch p) s) := by
  refine Ok.of (r := vm_m136) (ls := [some (.ref 95)]) rfl (Nat.le_of_ble_eq_true rfl) rfl (fun d hd => ?_)
  obtain ⟨t1, t2, t3, t4, t5, t6⟩ := id t
  have cb := t6 p
  refine Gs_aload_n p136_0 rfl rfl ?_
  refine Gs_getI p136_1 (by first | rfl | assumption | exact (show isTale _ from by assumption).1 | exact (show isCamp _ _ from by assumption).1 | exact (show isRow _ _ from by assumption).1) (by rfl) ?_
  refine Gs_aload_n p136_4 rfl rfl ?_
  refine Gs_getI p136_5 (by first | rfl | assumption | exact (show isTale _ from by assumption).1 | exact (show isCamp _ _ from by assumption).1 | exact (show isRow _ _ from by assumption).1) (by rfl) ?_
  rw [hp, t1]
  refine Gs_icmp_ge (tgt := 23) p136_8 (by rfl) (by first | assumption | exact ⟨by omega, by omega⟩ | (split <;> exact ⟨by omega, by omega⟩)) (by first | assumption | exact ⟨by omega, by omega⟩ | (split <;> exact ⟨by omega, by omega⟩)) (fun h8 => ?_) (fun h8 => ?_)
  · refine Gs_iconst p136_23 ?_
    refine Gs_iret p136_24 rfl ⟨_, rfl, ?_⟩
    refine ⟨?_, rfl⟩
    unfold hM
    first
      | (have := t5 p (by omega); rw [if_pos this]; done)
      | (have := t4 p p0 (by omega); rw [if_neg (by omega)]; exact this.1)
  · refine Gs_aload_n p136_11 rfl rfl ?_
    refine Gs_getR p136_12 (by first | rfl | assumption | exact (show isTale _ from by assumption).1 | exact (show isCamp _ _ from by assumption).1 | exact (show isRow _ _ from by assumption).1) (by rfl) ?_
    refine Gs_aload_n p136_15 rfl rfl ?_
    refine Gs_getI p136_16 (by first | rfl | assumption | exact (show isTale _ from by assumption).1 | exact (show isCamp _ _ from by assumption).1 | exact (show isRow _ _ from by assumption).1) (by rfl) ?_
    rw [hp]
    refine Gs_iald p136_19 (by first | rfl | assumption | exact (show isTale _ from by assumption).1 | exact (show isCamp _ _ from by assumption).1 | exact (show isRow _ _ from by assumption).1) (by omega) (by omega) (by omega) ?_
    refine Gs_goto (tgt := 24) p136_20 (by rfl) ?_
    refine Gs_iret p136_24 rfl ⟨_, rfl, ?_⟩
    refine ⟨?_, rfl⟩
    unfold hM
    first
      | (have := t5 p (by omega); rw [if_pos this]; done)
      | (have := t4 p p0 (by omega); rw [if_neg (by omega)]; exact this.1)

set_option maxHeartbeats 1000000 in
set_option maxRecDepth 4000 in
theorem c_mFig {X : vX} {s : St} {x : Int} (gx : rg x) : OkI X 1 138 [.int (iI x)] s (Is1 (if ¬ fg x = -4 then 1 else 0) s) := by
  refine Ok.of (r := vm_m138) (ls := [some (.int (iI x))]) rfl (Nat.le_of_ble_eq_true rfl) rfl (fun d hd => ?_)
  obtain ⟨x0, x1⟩ := id gx
  refine Gs_iload_n p138_0 rfl rfl ?_
  refine Gs_i2l p138_1 (by first | assumption | exact ⟨by omega, by omega⟩ | (split <;> exact ⟨by omega, by omega⟩)) ?_
  refine Gs_ldc2 (z := (48)) p138_2 (by decide) ?_
  refine Gs_ldc2 (z := (57)) p138_5 (by decide) ?_
  refine Gs_callS3I p138_8 (by rfl) (Nat.le_of_ble_eq_true rfl) (by decide) (c_in ⟨by omega, by omega⟩ ⟨by omega, by omega⟩ ⟨by omega, by omega⟩) (by omega) ?_
  refine Gs_zret p138_11 rfl (by first | exact Or.inl rfl | exact Or.inr rfl | (split <;> first | exact Or.inl rfl | exact Or.inr rfl)) ⟨_, rfl, ?_⟩
  refine ⟨?_, rfl⟩
  by_cases c : 48 ≤ x ∧ x ≤ 57
  · rw [if_pos c, if_pos (by unfold fg; rw [if_pos c]; omega)]
  · rw [if_neg c, if_neg (by unfold fg; rw [if_neg c]; exact fun q => q rfl)]

set_option maxHeartbeats 1000000 in
set_option maxRecDepth 4000 in
theorem c_takes {X : vX} {s : St} {ch : Int → Int} {n p : Int} (t : MTx s ch n) (hp : vF s 95 12 = p) (p0 : 0 ≤ p) (p1 : p ≤ 1000000) {c : Int} (c0 : 0 ≤ c) (c1 : c ≤ 1000) : OkI X 1 137 [.ref 95, .int (iI c)] s (fun z u => z = (if ch p = c then 1 else 0) ∧ FrP s u ∧ (ch p = c → vF u 95 12 = p + 1 ∧ vF u 95 13 = vF s 95 13)) := by
  refine Ok.of (r := vm_m137) (ls := [some (.ref 95), some (.int (iI c)), none]) rfl (Nat.le_of_ble_eq_true rfl) rfl (fun d hd => ?_)
  have hb := hM_b (t.2.2.2.2.2 p)
  have hc := hb.2.2 c c0
  refine Gs_aload_n p137_0 rfl rfl ?_
  refine Gs_callV0I p137_1 (by rfl) (by rfl) (by rfl) (Nat.le_of_ble_eq_true rfl) (by decide) (c_here t hp p0 p1) (by omega) ?_
  refine Gs_iload_n p137_4 rfl rfl ?_
  refine Gs_icmp_ne (tgt := 12) p137_5 (by rfl) (by first | assumption | exact ⟨by omega, by omega⟩ | (split <;> exact ⟨by omega, by omega⟩)) (by first | assumption | exact ⟨by omega, by omega⟩ | (split <;> exact ⟨by omega, by omega⟩)) (fun h5 => ?_) (fun h5 => ?_)
  · refine Gs_iconst p137_12 ?_
    refine Gs_ist2 p137_13 (by first | rfl | assumption) ?_
    refine Gs_aload_n p137_14 rfl rfl ?_
    refine Gs_dup p137_15 rfl ?_
    refine Gs_getI p137_16 (by first | rfl | assumption | exact (show isTale _ from by assumption).1 | exact (show isCamp _ _ from by assumption).1 | exact (show isRow _ _ from by assumption).1) (by rfl) ?_
    refine Gs_iload_n p137_19 rfl rfl ?_
    refine Gs_if_eq (tgt := 27) p137_20 (by rfl) (by first | assumption | exact ⟨by omega, by omega⟩ | (split <;> exact ⟨by omega, by omega⟩)) (fun h20 => ?_) (fun h20 => ?_)
    · refine Gs_iconst p137_27 ?_
      refine Gs_iadd p137_28 ?_
      refine Gs_putI p137_29 (by first | rfl | assumption | exact (show isTale _ from by assumption).1 | exact (show isCamp _ _ from by assumption).1 | exact (show isRow _ _ from by assumption).1) (by rfl) (by rfl) (by rfl) ?_
      refine Gs_iload_n p137_32 rfl rfl ?_
      refine Gs_zret p137_33 rfl (by first | exact Or.inl rfl | exact Or.inr rfl | (split <;> first | exact Or.inl rfl | exact Or.inr rfl)) ⟨_, rfl, ?_⟩
      first
        | (exfalso; omega)
        | exact ⟨(if_pos (by omega)).symm, ⟨fun _ _ => rfl, fun a k e => by rw [vF_sF, if_neg (by omega)]⟩, fun _ => ⟨by rw [vF_sF, if_pos ⟨rfl, rfl⟩, hp], by rw [vF_sF, if_neg (by decide)]⟩⟩
        | exact ⟨(if_neg (by omega)).symm, ⟨fun _ _ => rfl, fun a k e => by rw [vF_sF, if_neg (by omega)]⟩, fun q => absurd q (by omega)⟩
    · refine Gs_iconst p137_23 ?_
      refine Gs_goto (tgt := 28) p137_24 (by rfl) ?_
      refine Gs_iadd p137_28 ?_
      refine Gs_putI p137_29 (by first | rfl | assumption | exact (show isTale _ from by assumption).1 | exact (show isCamp _ _ from by assumption).1 | exact (show isRow _ _ from by assumption).1) (by rfl) (by rfl) (by rfl) ?_
      refine Gs_iload_n p137_32 rfl rfl ?_
      refine Gs_zret p137_33 rfl (by first | exact Or.inl rfl | exact Or.inr rfl | (split <;> first | exact Or.inl rfl | exact Or.inr rfl)) ⟨_, rfl, ?_⟩
      first
        | (exfalso; omega)
        | exact ⟨(if_pos (by omega)).symm, ⟨fun _ _ => rfl, fun a k e => by rw [vF_sF, if_neg (by omega)]⟩, fun _ => ⟨by rw [vF_sF, if_pos ⟨rfl, rfl⟩, hp], by rw [vF_sF, if_neg (by decide)]⟩⟩
        | exact ⟨(if_neg (by omega)).symm, ⟨fun _ _ => rfl, fun a k e => by rw [vF_sF, if_neg (by omega)]⟩, fun q => absurd q (by omega)⟩
  · refine Gs_iconst p137_8 ?_
    refine Gs_goto (tgt := 13) p137_9 (by rfl) ?_
    refine Gs_ist2 p137_13 (by first | rfl | assumption) ?_
    refine Gs_aload_n p137_14 rfl rfl ?_
    refine Gs_dup p137_15 rfl ?_
    refine Gs_getI p137_16 (by first | rfl | assumption | exact (show isTale _ from by assumption).1 | exact (show isCamp _ _ from by assumption).1 | exact (show isRow _ _ from by assumption).1) (by rfl) ?_
    refine Gs_iload_n p137_19 rfl rfl ?_
    refine Gs_if_eq (tgt := 27) p137_20 (by rfl) (by first | assumption | exact ⟨by omega, by omega⟩ | (split <;> exact ⟨by omega, by omega⟩)) (fun h20 => ?_) (fun h20 => ?_)
    · refine Gs_iconst p137_27 ?_
      refine Gs_iadd p137_28 ?_
      refine Gs_putI p137_29 (by first | rfl | assumption | exact (show isTale _ from by assumption).1 | exact (show isCamp _ _ from by assumption).1 | exact (show isRow _ _ from by assumption).1) (by rfl) (by rfl) (by rfl) ?_
      refine Gs_iload_n p137_32 rfl rfl ?_
      refine Gs_zret p137_33 rfl (by first | exact Or.inl rfl | exact Or.inr rfl | (split <;> first | exact Or.inl rfl | exact Or.inr rfl)) ⟨_, rfl, ?_⟩
      first
        | (exfalso; omega)
        | exact ⟨(if_pos (by omega)).symm, ⟨fun _ _ => rfl, fun a k e => by rw [vF_sF, if_neg (by omega)]⟩, fun _ => ⟨by rw [vF_sF, if_pos ⟨rfl, rfl⟩, hp], by rw [vF_sF, if_neg (by decide)]⟩⟩
        | exact ⟨(if_neg (by omega)).symm, ⟨fun _ _ => rfl, fun a k e => by rw [vF_sF, if_neg (by omega)]⟩, fun q => absurd q (by omega)⟩
    · refine Gs_iconst p137_23 ?_
      refine Gs_goto (tgt := 28) p137_24 (by rfl) ?_
      refine Gs_iadd p137_28 ?_
      refine Gs_putI p137_29 (by first | rfl | assumption | exact (show isTale _ from by assumption).1 | exact (show isCamp _ _ from by assumption).1 | exact (show isRow _ _ from by assumption).1) (by rfl) (by rfl) (by rfl) ?_
      refine Gs_iload_n p137_32 rfl rfl ?_
      refine Gs_zret p137_33 rfl (by first | exact Or.inl rfl | exact Or.inr rfl | (split <;> first | exact Or.inl rfl | exact Or.inr rfl)) ⟨_, rfl, ?_⟩
      first
        | (exfalso; omega)
        | exact ⟨(if_pos (by omega)).symm, ⟨fun _ _ => rfl, fun a k e => by rw [vF_sF, if_neg (by omega)]⟩, fun _ => ⟨by rw [vF_sF, if_pos ⟨rfl, rfl⟩, hp], by rw [vF_sF, if_neg (by decide)]⟩⟩
        | exact ⟨(if_neg (by omega)).symm, ⟨fun _ _ => rfl, fun a k e => by rw [vF_sF, if_neg (by omega)]⟩, fun q => absurd q (by omega)⟩

set_option maxHeartbeats 4000000 in
set_option maxRecDepth 4000 in
theorem c_number {X : vX} {s : St} {ch : Int → Int} {n p : Int} (t : MTx s ch n) (hp : vF s 95 12 = p) (p0 : 0 ≤ p) (p1 : p ≤ 100000) {lo hi : Int} (l0 : -10 ≤ lo) (l1 : lo ≤ 1000) (i0 : -10 ≤ hi) (i1 : hi ≤ 1000) : OkI X 2 139 [.ref 95, .int (iI lo), .int (iI hi)] s (fun z u => z = (if ¬ nmV ch p = -4 ∧ lo ≤ nmV ch p ∧ nmV ch p ≤ hi then 1 else 0) ∧ FrP s u ∧ (¬ nmV ch p = -4 → vF u 95 12 = nmP ch p ∧ vF u 95 13 = nmV ch p)) := by
  refine Ok.of (r := vm_m139) (ls := [some (.ref 95), some (.int (iI lo)), some (.int (iI hi))]) rfl (Nat.le_of_ble_eq_true rfl) rfl (fun d hd => ?_)
  subst hp
  have hb := hM_b (t.2.2.2.2.2 (vF s 95 12))
  have hb2 := hM_b (t.2.2.2.2.2 (vF s 95 12 + 1))
  have f1 := fg_b (ch (vF s 95 12))
  have f2 := fg_b (ch (vF s 95 12 + 1))
  have vb := nmV_b ch (vF s 95 12)
  have eP : nmP ch (vF s 95 12) = if fg (ch (vF s 95 12)) = -4 ∨ fg (ch (vF s 95 12 + 1)) = -4 then vF s 95 12 + 1 else vF s 95 12 + 2 := rfl
  have eV : nmV ch (vF s 95 12) = if fg (ch (vF s 95 12)) = -4 then -4 else if fg (ch (vF s 95 12 + 1)) = -4 then fg (ch (vF s 95 12)) else 10 * fg (ch (vF s 95 12)) + fg (ch (vF s 95 12 + 1)) := rfl
  have o2 : FrP s (sF s 95 13 (fg (ch (vF s 95 12)))) := ⟨fun _ _ => rfl, fun a k e => by rw [vF_sF, if_neg (by omega)]⟩
  have o3 : FrP s (sF (sF s 95 13 (fg (ch (vF s 95 12)))) 95 12 (vF (sF s 95 13 (fg (ch (vF s 95 12)))) 95 12 + 1)) := ⟨fun _ _ => rfl, fun a k e => by rw [vF_sF, if_neg (by omega), vF_sF, if_neg (by omega)]⟩
  have p3 : vF (sF (sF s 95 13 (fg (ch (vF s 95 12)))) 95 12 (vF (sF s 95 13 (fg (ch (vF s 95 12)))) 95 12 + 1)) 95 12 = vF s 95 12 + 1 := rfl
  refine Gs_aload_n p139_0 rfl rfl ?_
  refine Gs_callV0I p139_1 (by rfl) (by rfl) (by rfl) (Nat.le_of_ble_eq_true rfl) (by decide) (c_here t rfl p0 (by omega)) (by omega) ?_
  refine Gs_callS1I p139_4 (by rfl) (Nat.le_of_ble_eq_true rfl) (by decide) (c_mFig ⟨by omega, by omega⟩) (by omega) ?_
  refine Gs_ifb_ne (tgt := 12) p139_7 (by rfl) (fun h7 => ?_) (fun h7 => ?_)
  · have g7 := hM_fig h7
    refine Gs_aload_n p139_12 rfl rfl ?_
    refine Gs_aload_n p139_13 rfl rfl ?_
    refine Gs_callV0I p139_14 (by rfl) (by rfl) (by rfl) (Nat.le_of_ble_eq_true rfl) (by decide) (c_here t rfl p0 (by omega)) (by omega) ?_
    refine Gs_bipush p139_17 (by decide) ?_
    refine Gs_isub p139_19 ?_
    rw [show hM ch (vF s 95 12) - 48 = fg (ch (vF s 95 12)) by omega]
    refine Gs_putI p139_20 (by first | rfl | assumption | exact (show isTale _ from by assumption).1 | exact (show isCamp _ _ from by assumption).1 | exact (show isRow _ _ from by assumption).1) (by rfl) (by rfl) (by rfl) ?_
    refine Gs_aload_n p139_23 rfl rfl ?_
    refine Gs_dup p139_24 rfl ?_
    refine Gs_getI p139_25 (by first | rfl | assumption | exact (show isTale _ from by assumption).1 | exact (show isCamp _ _ from by assumption).1 | exact (show isRow _ _ from by assumption).1) (by rfl) ?_
    refine Gs_iconst p139_28 ?_
    refine Gs_iadd p139_29 ?_
    refine Gs_putI p139_30 (by first | rfl | assumption | exact (show isTale _ from by assumption).1 | exact (show isCamp _ _ from by assumption).1 | exact (show isRow _ _ from by assumption).1) (by rfl) (by rfl) (by rfl) ?_
    refine Gs_aload_n p139_33 rfl rfl ?_
    refine Gs_callV0I p139_34 (by rfl) (by rfl) (by rfl) (Nat.le_of_ble_eq_true rfl) (by decide) (c_here (o3.txt t) p3 (by omega) (by omega)) (by omega) ?_
    refine Gs_callS1I p139_37 (by rfl) (Nat.le_of_ble_eq_true rfl) (by decide) (c_mFig ⟨by omega, by omega⟩) (by omega) ?_
    refine Gs_ifb_eq (tgt := 72) p139_40 (by rfl) (fun h40 => ?_) (fun h40 => ?_)
    · refine Gs_aload_n p139_72 rfl rfl ?_
      refine Gs_getI p139_73 (by first | rfl | assumption | exact (show isTale _ from by assumption).1 | exact (show isCamp _ _ from by assumption).1 | exact (show isRow _ _ from by assumption).1) (by rfl) ?_
      refine Gs_i2l p139_76 (by first | exact (show rg (nmV ch (vF s 95 12)) from ⟨by omega, by omega⟩) | exact (show rg (fg (ch (vF s 95 12))) from ⟨by omega, by omega⟩)) ?_
      refine Gs_iload_n p139_77 rfl rfl ?_
      refine Gs_i2l p139_78 (by first | assumption | exact ⟨by omega, by omega⟩ | (split <;> exact ⟨by omega, by omega⟩)) ?_
      refine Gs_iload_n p139_79 rfl rfl ?_
      refine Gs_i2l p139_80 (by first | assumption | exact ⟨by omega, by omega⟩ | (split <;> exact ⟨by omega, by omega⟩)) ?_
      refine Gs_callS3I p139_81 (by rfl) (Nat.le_of_ble_eq_true rfl) (by decide) (c_in (by first | exact (show rL (nmV ch (vF s 95 12)) from ⟨by omega, by omega⟩) | exact (show rL (fg (ch (vF s 95 12))) from ⟨by omega, by omega⟩)) ⟨by omega, by omega⟩ ⟨by omega, by omega⟩) (by omega) ?_
      refine Gs_zret p139_84 rfl (by first | exact Or.inl rfl | exact Or.inr rfl | (split <;> first | exact Or.inl rfl | exact Or.inr rfl)) ⟨_, rfl, ?_⟩
      first
        | (have g40 : fg (ch (vF s 95 12 + 1)) = -4 := hM_no (Decidable.not_not.mp h40)
           rw [if_neg (by omega), if_pos g40] at eV
           rw [if_pos (Or.inr g40)] at eP
           refine ⟨?_, o3, fun _ => ⟨eP.symm, eV.symm⟩⟩
           show (if lo ≤ fg (ch (vF s 95 12)) ∧ fg (ch (vF s 95 12)) ≤ hi then (1 : Int) else 0) = _
           rw [← eV]
           by_cases c : lo ≤ nmV ch (vF s 95 12) ∧ nmV ch (vF s 95 12) ≤ hi
           · rw [if_pos c, if_pos ⟨by omega, c⟩]
           · rw [if_neg c, if_neg (fun q => c q.2)])
        | (refine ⟨?_, o3.trans ⟨fun _ _ => rfl, fun a k e => by rw [vF_sF, if_neg (by omega), vF_sF, if_neg (by omega)]⟩, fun _ => ⟨eP.symm ▸ ?_, rfl⟩⟩
           · show (if lo ≤ nmV ch (vF s 95 12) ∧ nmV ch (vF s 95 12) ≤ hi then (1 : Int) else 0) = _
             by_cases c : lo ≤ nmV ch (vF s 95 12) ∧ nmV ch (vF s 95 12) ≤ hi
             · rw [if_pos c, if_pos ⟨by omega, c⟩]
             · rw [if_neg c, if_neg (fun q => c q.2)]
           · show vF s 95 12 + 1 + 1 = vF s 95 12 + 2
             omega)
    · have g40 := hM_fig h40
      rw [if_neg (by omega), if_neg (by omega)] at eV
      rw [if_neg (by omega)] at eP
      refine Gs_aload_n p139_43 rfl rfl ?_
      refine Gs_bipush p139_44 (by decide) ?_
      refine Gs_aload_n p139_46 rfl rfl ?_
      refine Gs_getI p139_47 (by first | rfl | assumption | exact (show isTale _ from by assumption).1 | exact (show isCamp _ _ from by assumption).1 | exact (show isRow _ _ from by assumption).1) (by rfl) ?_
      rw [show vF (sF (sF s 95 13 (fg (ch (vF s 95 12)))) 95 12 (vF (sF s 95 13 (fg (ch (vF s 95 12)))) 95 12 + 1)) 95 13 = fg (ch (vF s 95 12)) from rfl]
      refine Gs_imul p139_50 ?_
      refine Gs_aload_n p139_51 rfl rfl ?_
      refine Gs_callV0I p139_52 (by rfl) (by rfl) (by rfl) (Nat.le_of_ble_eq_true rfl) (by decide) (c_here (o3.txt t) p3 (by omega) (by omega)) (by omega) ?_
      refine Gs_iadd p139_55 ?_
      refine Gs_bipush p139_56 (by decide) ?_
      refine Gs_isub p139_58 ?_
      rw [show 10 * fg (ch (vF s 95 12)) + hM ch (vF s 95 12 + 1) - 48 = nmV ch (vF s 95 12) by omega]
      refine Gs_putI p139_59 (by first | rfl | assumption | exact (show isTale _ from by assumption).1 | exact (show isCamp _ _ from by assumption).1 | exact (show isRow _ _ from by assumption).1) (by rfl) (by rfl) (by rfl) ?_
      refine Gs_aload_n p139_62 rfl rfl ?_
      refine Gs_dup p139_63 rfl ?_
      refine Gs_getI p139_64 (by first | rfl | assumption | exact (show isTale _ from by assumption).1 | exact (show isCamp _ _ from by assumption).1 | exact (show isRow _ _ from by assumption).1) (by rfl) ?_
      refine Gs_iconst p139_67 ?_
      refine Gs_iadd p139_68 ?_
      refine Gs_putI p139_69 (by first | rfl | assumption | exact (show isTale _ from by assumption).1 | exact (show isCamp _ _ from by assumption).1 | exact (show isRow _ _ from by assumption).1) (by rfl) (by rfl) (by rfl) ?_
      refine Gs_aload_n p139_72 rfl rfl ?_
      refine Gs_getI p139_73 (by first | rfl | assumption | exact (show isTale _ from by assumption).1 | exact (show isCamp _ _ from by assumption).1 | exact (show isRow _ _ from by assumption).1) (by rfl) ?_
      refine Gs_i2l p139_76 (by first | exact (show rg (nmV ch (vF s 95 12)) from ⟨by omega, by omega⟩) | exact (show rg (fg (ch (vF s 95 12))) from ⟨by omega, by omega⟩)) ?_
      refine Gs_iload_n p139_77 rfl rfl ?_
      refine Gs_i2l p139_78 (by first | assumption | exact ⟨by omega, by omega⟩ | (split <;> exact ⟨by omega, by omega⟩)) ?_
      refine Gs_iload_n p139_79 rfl rfl ?_
      refine Gs_i2l p139_80 (by first | assumption | exact ⟨by omega, by omega⟩ | (split <;> exact ⟨by omega, by omega⟩)) ?_
      refine Gs_callS3I p139_81 (by rfl) (Nat.le_of_ble_eq_true rfl) (by decide) (c_in (by first | exact (show rL (nmV ch (vF s 95 12)) from ⟨by omega, by omega⟩) | exact (show rL (fg (ch (vF s 95 12))) from ⟨by omega, by omega⟩)) ⟨by omega, by omega⟩ ⟨by omega, by omega⟩) (by omega) ?_
      refine Gs_zret p139_84 rfl (by first | exact Or.inl rfl | exact Or.inr rfl | (split <;> first | exact Or.inl rfl | exact Or.inr rfl)) ⟨_, rfl, ?_⟩
      first
        | (have g40 : fg (ch (vF s 95 12 + 1)) = -4 := hM_no (Decidable.not_not.mp h40)
           rw [if_neg (by omega), if_pos g40] at eV
           rw [if_pos (Or.inr g40)] at eP
           refine ⟨?_, o3, fun _ => ⟨eP.symm, eV.symm⟩⟩
           show (if lo ≤ fg (ch (vF s 95 12)) ∧ fg (ch (vF s 95 12)) ≤ hi then (1 : Int) else 0) = _
           rw [← eV]
           by_cases c : lo ≤ nmV ch (vF s 95 12) ∧ nmV ch (vF s 95 12) ≤ hi
           · rw [if_pos c, if_pos ⟨by omega, c⟩]
           · rw [if_neg c, if_neg (fun q => c q.2)])
        | (refine ⟨?_, o3.trans ⟨fun _ _ => rfl, fun a k e => by rw [vF_sF, if_neg (by omega), vF_sF, if_neg (by omega)]⟩, fun _ => ⟨eP.symm ▸ ?_, rfl⟩⟩
           · show (if lo ≤ nmV ch (vF s 95 12) ∧ nmV ch (vF s 95 12) ≤ hi then (1 : Int) else 0) = _
             by_cases c : lo ≤ nmV ch (vF s 95 12) ∧ nmV ch (vF s 95 12) ≤ hi
             · rw [if_pos c, if_pos ⟨by omega, c⟩]
             · rw [if_neg c, if_neg (fun q => c q.2)]
           · show vF s 95 12 + 1 + 1 = vF s 95 12 + 2
             omega)
  · refine Gs_iconst p139_10 ?_
    refine Gs_zret p139_11 rfl (by first | exact Or.inl rfl | exact Or.inr rfl | (split <;> first | exact Or.inl rfl | exact Or.inr rfl)) ⟨_, rfl, ?_⟩
    have g7 := hM_no (Decidable.not_not.mp h7)
    rw [if_pos g7] at eV
    exact ⟨(if_neg (fun q => q.1 eV)).symm, FrP.rfl', fun q => absurd eV q⟩
