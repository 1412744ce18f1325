/-! the reference's sums -/
/-- a camp's 33 numbers are in bounds -/
def MC (s : St) (a : Nat) (n : Int) : Prop := 0 ≤ vA s a 32 ∧ vA s a 32 ≤ 100000 ∧ (∀ k, 0 ≤ k → k < 4 → 0 ≤ vA s a k ∧ vA s a k ≤ 20) ∧ ∀ k, 0 ≤ k → k < n → (-4 ≤ vA s a (4 + k) ∧ vA s a (4 + k) ≤ 8) ∧ (-4 ≤ vA s a (24 + k) ∧ vA s a (24 + k) ≤ 3) ∧ (0 ≤ vA s a (28 + k) ∧ vA s a (28 + k) ≤ 100000) ∧ (∀ w, 0 ≤ w → w < 4 → 0 ≤ vA s a (8 + 4 * k + w) ∧ vA s a (8 + 4 * k + w) ≤ 99)
theorem MC.cong {s s' : St} {a : Nat} {n : Int} (h : MC s a n) (e : ∀ z, vA s' a z = vA s a z) : MC s' a n := by unfold MC at h ⊢; simp only [e]; exact h
theorem CampRel.mc {s : St} {c a : Nat} {n L K : Int} (h : CampRel s c a 0 n L K) : MC s a n := by
  obtain ⟨h1, h2, h3, h4, h5, h6⟩ := h
  have c5 := h1.2.2.2.1
  have c6 := h1.2.2.2.2.1
  rw [h2, Int.zero_add] at c5 c6
  refine ⟨c5, c6, fun k b0 b1 => ?_, fun k b0 b1 => ?_⟩
  · by_cases hk : k < n
    · have := (h4 k b0 hk).1
      rw [Int.zero_add] at this
      rw [← this]
      exact h1.b b0 hk (by omega) (by omega)
    · have := (h6 k (by omega) b1).1
      rw [Int.zero_add] at this
      rw [this]; omega
  · obtain ⟨e1, e2, e3, e4, e5, e6, e7⟩ := h4 k b0 b1
    rw [Int.zero_add] at e2 e3 e4
    refine ⟨?_, ?_, ?_, fun w d0 d1 => ?_⟩
    · rw [← e2]; exact h1.b b0 b1 (w := 1) (by omega) (by omega)
    · rw [← e3]; exact h1.b b0 b1 (w := 6) (by omega) (by omega)
    · rw [← e4]; exact h1.b b0 b1 (w := 7) (by omega) (by omega)
    · have := h5 k w b0 b1 d0 d1
      rw [Int.zero_add] at this
      rw [← this]
      have b := h1.b b0 b1 (w := 2 + w) (by omega) (by omega)
      have l := loW_b (2 + w)
      have e : loW (2 + w) = 0 ∧ hiW (2 + w) = 99 := by
        unfold loW hiW
        constructor <;> ((repeat' split) <;> omega)
      omega
def inM (s : St) (a : Nat) (k : Int) : Int := if 0 < vA s a (0 + k) then 1 else 0
theorem inM_b (s : St) (a : Nat) (k : Int) : 0 ≤ inM s a k ∧ inM s a k ≤ 1 := by unfold inM; split <;> omega
def isA (a : Nat) (n : Nat) : Prop := ly a = (1, n, [])
set_option maxHeartbeats 1000000 in
set_option maxRecDepth 4000 in
theorem c_insOf {X : vX} {s : St} {a : Nat} (ha : isA a 33) {n : Int} (hm : MC s a n) : OkI X 0 164 [.ref 95, .ref a] s (Is1 (sm (inM s a) 4) s) := by
  refine Ok.of (r := vm_m164) (ls := [some (.ref 95), some (.ref a), none, none]) rfl (Nat.le_of_ble_eq_true rfl) rfl (fun d hd => ?_)
  obtain ⟨m1, m2, m3, m4⟩ := id hm
  unfold isA at ha
  refine Gs_iconst p164_0 ?_
  refine Gs_ist2 p164_1 (by first | rfl | assumption) ?_
  refine Gs_iconst p164_2 ?_
  refine Gs_ist3 p164_3 (by first | rfl | assumption) ?_
  refine dn (n := 4) (P := fun i => Gs X d 164 4 [some (.ref 95), some (.ref a), some (.int (iI (sm (inM s a) i))), some (.int (iI i))] [] (s) _) (by omega) (fun i hi hin ih => ?_) ?_
  · show Gs X d 164 4 [some (.ref 95), some (.ref a), some (.int (iI (sm (inM s a) i))), some (.int (iI i))] [] (s) _
    refine Gs_iload_n p164_4 rfl rfl ?_
    refine Gs_iconst p164_5 ?_
    refine Gs_icmp_ge (tgt := 31) p164_6 (by rfl) (by first | assumption | exact ⟨by omega, by omega⟩ | (split <;> exact ⟨by omega, by omega⟩)) (by first | assumption | exact ⟨by omega, by omega⟩ | (split <;> exact ⟨by omega, by omega⟩)) (fun hc6 => absurd ‹_› (by first | omega | assumption)) (fun hc6 => ?_)
    have b := m3 (0 + i) (by omega) (by omega)
    refine Gs_iload_n p164_9 rfl rfl ?_
    refine Gs_aload_n p164_10 rfl rfl ?_
    refine Gs_iconst p164_11 ?_
    refine Gs_iload_n p164_12 rfl rfl ?_
    refine Gs_iadd p164_13 ?_
    refine Gs_iald p164_14 (by first | rfl | assumption | exact (show isTale _ from by assumption).1 | exact (show isCamp _ _ from by assumption).1 | exact (show isRow _ _ from by assumption).1) (by omega) (by omega) (by omega) ?_
    refine Gs_if_le (tgt := 22) p164_15 (by rfl) (by first | assumption | exact ⟨by omega, by omega⟩ | (split <;> exact ⟨by omega, by omega⟩)) (fun h15 => ?_) (fun h15 => ?_)
    · refine Gs_iconst p164_22 ?_
      refine Gs_iadd p164_23 ?_
      refine Gs_ist2 p164_24 (by first | rfl | assumption) ?_
      refine Gs_iinc3 (b53 := none) p164_25 (by first | rfl | assumption) ?_
      refine Gs_goto (tgt := 4) p164_28 (by rfl) ?_
      rw [sm_s _ hi] at ih
      first | (rw [inM, if_pos h15] at ih; exact ih) | (rw [inM, if_neg h15] at ih; exact ih) | (rw [inM, if_neg (by omega)] at ih; exact ih) | (rw [inM, if_pos (by omega)] at ih; exact ih)
    · refine Gs_iconst p164_18 ?_
      refine Gs_goto (tgt := 23) p164_19 (by rfl) ?_
      refine Gs_iadd p164_23 ?_
      refine Gs_ist2 p164_24 (by first | rfl | assumption) ?_
      refine Gs_iinc3 (b53 := none) p164_25 (by first | rfl | assumption) ?_
      refine Gs_goto (tgt := 4) p164_28 (by rfl) ?_
      rw [sm_s _ hi] at ih
      first | (rw [inM, if_pos h15] at ih; exact ih) | (rw [inM, if_neg h15] at ih; exact ih) | (rw [inM, if_neg (by omega)] at ih; exact ih) | (rw [inM, if_pos (by omega)] at ih; exact ih)
  · show Gs X d 164 4 [some (.ref 95), some (.ref a), some (.int (iI (sm (inM s a) (4)))), some (.int (iI (4)))] [] (s) _
    refine Gs_iload_n p164_4 rfl rfl ?_
    refine Gs_iconst p164_5 ?_
    refine Gs_icmp_ge (tgt := 31) p164_6 (by rfl) (by first | assumption | exact ⟨by omega, by omega⟩ | (split <;> exact ⟨by omega, by omega⟩)) (by first | assumption | exact ⟨by omega, by omega⟩ | (split <;> exact ⟨by omega, by omega⟩)) (fun hc6 => ?_) (fun hc6 => absurd ‹_› (by first | omega | assumption))
    refine Gs_iload_n p164_31 rfl rfl ?_
    refine Gs_iret p164_32 rfl ⟨_, rfl, ?_⟩
    exact ⟨rfl, rfl⟩

set_option maxHeartbeats 1000000 in
set_option maxRecDepth 4000 in
theorem c_toldIn {X : vX} {s : St} {a : Nat} (ha : isA a 33) : OkI X 0 196 [.ref a] s (Is1 (sm (fun k => vA s a (28 + k)) 4) s) := by
  refine Ok.of (r := vm_m196) (ls := [some (.ref a), none, none]) rfl (Nat.le_of_ble_eq_true rfl) rfl (fun d hd => ?_)
  unfold isA at ha
  refine Gs_iconst p196_0 ?_
  refine Gs_ist1 p196_1 (by first | rfl | assumption) ?_
  refine Gs_iconst p196_2 ?_
  refine Gs_ist2 p196_3 (by first | rfl | assumption) ?_
  refine dn (n := 4) (P := fun i => Gs X d 196 4 [some (.ref a), some (.int (iI (sm (fun k => vA s a (28 + k)) i))), some (.int (iI i))] [] (s) _) (by omega) (fun i hi hin ih => ?_) ?_
  · show Gs X d 196 4 [some (.ref a), some (.int (iI (sm (fun k => vA s a (28 + k)) i))), some (.int (iI i))] [] (s) _
    refine Gs_iload_n p196_4 rfl rfl ?_
    refine Gs_iconst p196_5 ?_
    refine Gs_icmp_ge (tgt := 24) p196_6 (by rfl) (by first | assumption | exact ⟨by omega, by omega⟩ | (split <;> exact ⟨by omega, by omega⟩)) (by first | assumption | exact ⟨by omega, by omega⟩ | (split <;> exact ⟨by omega, by omega⟩)) (fun hc6 => absurd ‹_› (by first | omega | assumption)) (fun hc6 => ?_)
    refine Gs_iload_n p196_9 rfl rfl ?_
    refine Gs_aload_n p196_10 rfl rfl ?_
    refine Gs_bipush p196_11 (by decide) ?_
    refine Gs_iload_n p196_13 rfl rfl ?_
    refine Gs_iadd p196_14 ?_
    refine Gs_iald p196_15 (by first | rfl | assumption | exact (show isTale _ from by assumption).1 | exact (show isCamp _ _ from by assumption).1 | exact (show isRow _ _ from by assumption).1) (by omega) (by omega) (by omega) ?_
    refine Gs_iadd p196_16 ?_
    refine Gs_ist1 p196_17 (by first | rfl | assumption) ?_
    refine Gs_iinc2 (b52 := none) p196_18 (by first | rfl | assumption) ?_
    refine Gs_goto (tgt := 4) p196_21 (by rfl) ?_
    rw [sm_s _ hi] at ih
    exact ih
  · show Gs X d 196 4 [some (.ref a), some (.int (iI (sm (fun k => vA s a (28 + k)) (4)))), some (.int (iI (4)))] [] (s) _
    refine Gs_iload_n p196_4 rfl rfl ?_
    refine Gs_iconst p196_5 ?_
    refine Gs_icmp_ge (tgt := 24) p196_6 (by rfl) (by first | assumption | exact ⟨by omega, by omega⟩ | (split <;> exact ⟨by omega, by omega⟩)) (by first | assumption | exact ⟨by omega, by omega⟩ | (split <;> exact ⟨by omega, by omega⟩)) (fun hc6 => ?_) (fun hc6 => absurd ‹_› (by first | omega | assumption))
    refine Gs_iload_n p196_24 rfl rfl ?_
    refine Gs_iret p196_25 rfl ⟨_, rfl, ?_⟩
    exact ⟨rfl, rfl⟩

set_option maxHeartbeats 1000000 in
set_option maxRecDepth 4000 in
theorem c_logsOfAll {X : vX} {s : St}  : OkI X 0 200 [.ref 95] s (Is1 (sm (fun k => vA s 98 (8 + k)) 16) s) := by
  refine Ok.of (r := vm_m200) (ls := [some (.ref 95), none, none]) rfl (Nat.le_of_ble_eq_true rfl) rfl (fun d hd => ?_)
  refine Gs_iconst p200_0 ?_
  refine Gs_ist1 p200_1 (by first | rfl | assumption) ?_
  refine Gs_iconst p200_2 ?_
  refine Gs_ist2 p200_3 (by first | rfl | assumption) ?_
  refine dn (n := 16) (P := fun i => Gs X d 200 4 [some (.ref 95), some (.int (iI (sm (fun k => vA s 98 (8 + k)) i))), some (.int (iI i))] [] (s) _) (by omega) (fun i hi hin ih => ?_) ?_
  · show Gs X d 200 4 [some (.ref 95), some (.int (iI (sm (fun k => vA s 98 (8 + k)) i))), some (.int (iI i))] [] (s) _
    refine Gs_iload_n p200_4 rfl rfl ?_
    refine Gs_bipush p200_5 (by decide) ?_
    refine Gs_icmp_ge (tgt := 28) p200_7 (by rfl) (by first | assumption | exact ⟨by omega, by omega⟩ | (split <;> exact ⟨by omega, by omega⟩)) (by first | assumption | exact ⟨by omega, by omega⟩ | (split <;> exact ⟨by omega, by omega⟩)) (fun hc7 => absurd ‹_› (by first | omega | assumption)) (fun hc7 => ?_)
    refine Gs_iload_n p200_10 rfl rfl ?_
    refine Gs_aload_n p200_11 rfl rfl ?_
    refine Gs_getR p200_12 (by first | rfl | assumption | exact (show isTale _ from by assumption).1 | exact (show isCamp _ _ from by assumption).1 | exact (show isRow _ _ from by assumption).1) (by rfl) ?_
    refine Gs_bipush p200_15 (by decide) ?_
    refine Gs_iload_n p200_17 rfl rfl ?_
    refine Gs_iadd p200_18 ?_
    refine Gs_iald p200_19 (by first | rfl | assumption | exact (show isTale _ from by assumption).1 | exact (show isCamp _ _ from by assumption).1 | exact (show isRow _ _ from by assumption).1) (by omega) (by omega) (by omega) ?_
    refine Gs_iadd p200_20 ?_
    refine Gs_ist1 p200_21 (by first | rfl | assumption) ?_
    refine Gs_iinc2 (b52 := none) p200_22 (by first | rfl | assumption) ?_
    refine Gs_goto (tgt := 4) p200_25 (by rfl) ?_
    rw [sm_s _ hi] at ih
    exact ih
  · show Gs X d 200 4 [some (.ref 95), some (.int (iI (sm (fun k => vA s 98 (8 + k)) (16)))), some (.int (iI (16)))] [] (s) _
    refine Gs_iload_n p200_4 rfl rfl ?_
    refine Gs_bipush p200_5 (by decide) ?_
    refine Gs_icmp_ge (tgt := 28) p200_7 (by rfl) (by first | assumption | exact ⟨by omega, by omega⟩ | (split <;> exact ⟨by omega, by omega⟩)) (by first | assumption | exact ⟨by omega, by omega⟩ | (split <;> exact ⟨by omega, by omega⟩)) (fun hc7 => ?_) (fun hc7 => absurd ‹_› (by first | omega | assumption))
    refine Gs_iload_n p200_28 rfl rfl ?_
    refine Gs_iret p200_29 rfl ⟨_, rfl, ?_⟩
    exact ⟨rfl, rfl⟩

theorem CampRel.ins {s : St} {c a : Nat} {n L K : Int} (h : CampRel s c a 0 n L K) : sm (inS s c) n = sm (inM s a) 4 := by
  obtain ⟨h1, h2, h3, h4, h5, h6⟩ := h
  rw [sm_0 h1.1 h1.2.1 (fun k b0 b1 => by
    have := (h6 k b0 b1).1
    unfold inM; rw [this]; rfl)]
  refine sm_cong (fun k b0 b1 => ?_)
  have := (h4 k b0 b1).1
  unfold inS inM
  rw [this]
  exact iff_if (by omega)
theorem CampRel.tds {s : St} {c a : Nat} {n L K : Int} (h : CampRel s c a 0 n L K) : sm (tdS s c) n = sm (fun k => vA s a (28 + k)) 4 := by
  obtain ⟨h1, h2, h3, h4, h5, h6⟩ := h
  rw [sm_0 (f := fun k => vA s a (28 + k)) h1.1 h1.2.1 (fun k b0 b1 => by
    have := (h6 k b0 b1).2.1
    rw [Int.zero_add] at this; exact this)]
  refine sm_cong (fun k b0 b1 => ?_)
  have := (h4 k b0 b1).2.2.2.1
  rw [Int.zero_add] at this; exact this
theorem smN_4 (f : Int → Int) (n : Nat) : smN f (4 * n) = smN (fun k => sm (fun w => f (4 * k + w)) 4) n := by
  induction n with
  | zero => rfl
  | succ n ih =>
    show smN f (4 * n) + f ((4 * n : Nat) : Int) + f ((4 * n + 1 : Nat) : Int) + f ((4 * n + 2 : Nat) : Int) + f ((4 * n + 3 : Nat) : Int) = smN _ n + (0 + f (4 * (n : Int) + ((0 : Nat) : Int)) + f (4 * (n : Int) + ((1 : Nat) : Int)) + f (4 * (n : Int) + ((2 : Nat) : Int)) + f (4 * (n : Int) + ((3 : Nat) : Int)))
    rw [ih, show ((4 * n : Nat) : Int) = 4 * (n : Int) + ((0 : Nat) : Int) by omega, show ((4 * n + 1 : Nat) : Int) = 4 * (n : Int) + ((1 : Nat) : Int) by omega, show ((4 * n + 2 : Nat) : Int) = 4 * (n : Int) + ((2 : Nat) : Int) by omega, show ((4 * n + 3 : Nat) : Int) = 4 * (n : Int) + ((3 : Nat) : Int) by omega]
    omega
theorem CampRel.lgs {s : St} {c a : Nat} {n L K : Int} (h : CampRel s c a 0 n L K) : sm (lgS s c) n = sm (fun k => vA s a (8 + k)) 16 := by
  obtain ⟨h1, h2, h3, h4, h5, h6⟩ := h
  show _ = smN (fun k => vA s a (8 + k)) (4 * 4)
  rw [smN_4]
  show _ = sm (fun k => sm (fun w => vA s a (8 + (4 * k + w))) 4) 4
  rw [sm_0 (f := fun k => sm (fun w => vA s a (8 + (4 * k + w))) 4) h1.1 h1.2.1 (fun k b0 b1 => by
    rw [sm_cong (g := fun _ => 0) (fun w c0 c1 => by
      have := (h6 k b0 b1).2.2 w c0 c1
      rw [show 0 + 8 + 4 * k + w = 8 + (4 * k + w) by omega] at this; exact this)]
    rfl)]
  refine sm_cong (fun k b0 b1 => ?_)
  refine sm_cong (fun w c0 c1 => ?_)
  have := h5 k w b0 b1 c0 c1
  rw [show 0 + 8 + 4 * k + w = 8 + (4 * k + w) by omega] at this; exact this