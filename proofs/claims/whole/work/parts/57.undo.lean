/-! undo, keep, back -/
def unS (s : St) : St := cpS (sF s 95 5 (vF s 95 5 - 1)) 100 (33 * (vF s 95 5 - 1)) 98 0 33
def kpS (s : St) : St := sF (cpS s 98 0 101 (33 * vF s 95 7) 33) 95 7 (vF s 95 7 + 1)
def bkS (s : St) : St := sF (cpS (sF s 95 7 (vF s 95 7 - 1)) 101 (33 * (vF s 95 7 - 1)) 98 0 33) 95 5 0
theorem unS_A (s : St) (i : Nat) (z : Int) : vA (unS s) i z = if i = 98 ∧ 0 ≤ z ∧ z < 0 + 33 then vA s 100 (z - 0 + 33 * (vF s 95 5 - 1)) else vA s i z := rfl
theorem unS_F (s : St) (i k : Nat) : vF (unS s) i k = if i = 95 ∧ k = 5 then vF s 95 5 - 1 else vF s i k := rfl
theorem kpS_A (s : St) (i : Nat) (z : Int) : vA (kpS s) i z = if i = 101 ∧ 33 * vF s 95 7 ≤ z ∧ z < 33 * vF s 95 7 + 33 then vA s 98 (z - 33 * vF s 95 7 + 0) else vA s i z := rfl
theorem kpS_F (s : St) (i k : Nat) : vF (kpS s) i k = if i = 95 ∧ k = 7 then vF s 95 7 + 1 else vF s i k := rfl
theorem bkS_A (s : St) (i : Nat) (z : Int) : vA (bkS s) i z = if i = 98 ∧ 0 ≤ z ∧ z < 0 + 33 then vA s 101 (z - 0 + 33 * (vF s 95 7 - 1)) else vA s i z := rfl
theorem bkS_F (s : St) (i k : Nat) : vF (bkS s) i k = if i = 95 ∧ k = 5 then 0 else if i = 95 ∧ k = 7 then vF s 95 7 - 1 else vF s i k := rfl
set_option maxHeartbeats 1000000 in
set_option maxRecDepth 4000 in
theorem k_undo {X : vX} {s : St} {n : Int} (hp : 0 ≤ vF s 20 1 ∧ vF s 20 1 < 100000 ∧ 0 ≤ vF s 20 2 ∧ vF s 20 2 ≤ 8) (hk : 0 < vF s 20 2 → CampOk s (slI s 20 8 (vF s 20 2 - 1)) n) : OkI X 5 105 [.ref 0] s (Is1 (if 0 < vF s 20 2 then vF s 20 2 - 1 else -2) (if 0 < vF s 20 2 then popS s 20 8 14 else s)) := by
  refine Ok.of (r := vm_m105) (ls := [some (.ref 0)]) rfl (Nat.le_of_ble_eq_true rfl) rfl (fun d hd => ?_)
  refine Gs_aload_n p105_0 rfl rfl ?_
  refine Gs_getR p105_1 (by first | rfl | assumption | exact (show isTale _ from by assumption).1 | exact (show isCamp _ _ from by assumption).1 | exact (show isRow _ _ from by assumption).1) (by rfl) ?_
  refine Gs_aload_n p105_4 rfl rfl ?_
  refine Gs_getR p105_5 (by first | rfl | assumption | exact (show isTale _ from by assumption).1 | exact (show isCamp _ _ from by assumption).1 | exact (show isRow _ _ from by assumption).1) (by rfl) ?_
  refine Gs_callV1I p105_8 (by rfl) (by rfl) (by first | rfl | assumption | exact (show isTale _ from by assumption).1 | exact (show isCamp _ _ from by assumption).1 | exact (show isRow _ _ from by assumption).1) (Nat.le_of_ble_eq_true rfl) (by decide) (c_pop shelf20 camp14 hk (by omega) hp.1 hp.2.1 hp.2.2.1 (by omega)) (by omega) ?_
  refine Gs_ifb_eq (tgt := 24) p105_11 (by rfl) (fun h11 => ?_) (fun h11 => ?_)
  · rw [if_neg h11]
    refine Gs_bipush p105_24 (by decide) ?_
    refine Gs_iret p105_26 rfl ⟨_, rfl, ?_⟩
    first
      | (rw [if_pos h11]; refine ⟨?_, rfl⟩; rw [popS_F, if_pos ⟨rfl, rfl⟩]; done)
      | (rw [if_pos h11, if_pos h11]; refine ⟨?_, rfl⟩; rw [popS_F, if_pos ⟨rfl, rfl⟩]; done)
      | (rw [if_neg h11]; exact ⟨rfl, rfl⟩)
      | (rw [if_neg h11, if_neg h11]; exact ⟨rfl, rfl⟩)
  · rw [if_pos h11]
    refine Gs_aload_n p105_14 rfl rfl ?_
    refine Gs_getR p105_15 (by first | rfl | assumption | exact (show isTale _ from by assumption).1 | exact (show isCamp _ _ from by assumption).1 | exact (show isRow _ _ from by assumption).1) (by rfl) ?_
    refine Gs_callV0I p105_18 (by rfl) (by rfl) (by first | rfl | assumption | exact (show isTale _ from by assumption).1 | exact (show isCamp _ _ from by assumption).1 | exact (show isRow _ _ from by assumption).1) (Nat.le_of_ble_eq_true rfl) (by decide) (c_Ssize shelf20) (by omega) ?_
    refine Gs_goto (tgt := 26) p105_21 (by rfl) ?_
    refine Gs_iret p105_26 rfl ⟨_, rfl, ?_⟩
    first
      | (rw [if_pos h11]; refine ⟨?_, rfl⟩; rw [popS_F, if_pos ⟨rfl, rfl⟩]; done)
      | (rw [if_pos h11, if_pos h11]; refine ⟨?_, rfl⟩; rw [popS_F, if_pos ⟨rfl, rfl⟩]; done)
      | (rw [if_neg h11]; exact ⟨rfl, rfl⟩)
      | (rw [if_neg h11, if_neg h11]; exact ⟨rfl, rfl⟩)

set_option maxHeartbeats 1000000 in
set_option maxRecDepth 4000 in
theorem m_undo {X : vX} {s : St} (hu : 0 ≤ vF s 95 5 ∧ vF s 95 5 ≤ 8) : OkI X 1 174 [.ref 95] s (Is1 (if vF s 95 5 = 0 then -2 else vF s 95 5 - 1) (if vF s 95 5 = 0 then s else unS s)) := by
  refine Ok.of (r := vm_m174) (ls := [some (.ref 95)]) rfl (Nat.le_of_ble_eq_true rfl) rfl (fun d hd => ?_)
  have e5 : vF (sF s 95 5 (vF s 95 5 - 1)) 95 5 = vF s 95 5 - 1 := rfl
  refine Gs_aload_n p174_0 rfl rfl ?_
  refine Gs_getI p174_1 (by first | rfl | assumption | exact (show isTale _ from by assumption).1 | exact (show isCamp _ _ from by assumption).1 | exact (show isRow _ _ from by assumption).1) (by rfl) ?_
  refine Gs_if_ne (tgt := 10) p174_4 (by rfl) (by first | assumption | exact ⟨by omega, by omega⟩ | (split <;> exact ⟨by omega, by omega⟩)) (fun h4 => ?_) (fun h4 => ?_)
  · refine Gs_aload_n p174_10 rfl rfl ?_
    refine Gs_dup p174_11 rfl ?_
    refine Gs_getI p174_12 (by first | rfl | assumption | exact (show isTale _ from by assumption).1 | exact (show isCamp _ _ from by assumption).1 | exact (show isRow _ _ from by assumption).1) (by rfl) ?_
    refine Gs_iconst p174_15 ?_
    refine Gs_isub p174_16 ?_
    refine Gs_putI p174_17 (by first | rfl | assumption | exact (show isTale _ from by assumption).1 | exact (show isCamp _ _ from by assumption).1 | exact (show isRow _ _ from by assumption).1) (by rfl) (by rfl) (by rfl) ?_
    refine Gs_aload_n p174_20 rfl rfl ?_
    refine Gs_getR p174_21 (by first | rfl | assumption | exact (show isTale _ from by assumption).1 | exact (show isCamp _ _ from by assumption).1 | exact (show isRow _ _ from by assumption).1) (by rfl) ?_
    refine Gs_bipush p174_24 (by decide) ?_
    refine Gs_aload_n p174_26 rfl rfl ?_
    refine Gs_getI p174_27 (by first | rfl | assumption | exact (show isTale _ from by assumption).1 | exact (show isCamp _ _ from by assumption).1 | exact (show isRow _ _ from by assumption).1) (by rfl) ?_
    rw [e5]
    refine Gs_imul p174_30 ?_
    refine Gs_aload_n p174_31 rfl rfl ?_
    refine Gs_getR p174_32 (by first | rfl | assumption | exact (show isTale _ from by assumption).1 | exact (show isCamp _ _ from by assumption).1 | exact (show isRow _ _ from by assumption).1) (by rfl) ?_
    refine Gs_iconst p174_35 ?_
    refine Gs_bipush p174_36 (by decide) ?_
    refine Gs_callS5W p174_38 (by rfl) (Nat.le_of_ble_eq_true rfl) (by decide) (c_copies isA100 isA98 (by decide) (by omega) (by omega) (by omega) (by omega) (by omega) (by decide) (by decide)) (by omega) ?_
    refine Gs_aload_n p174_41 rfl rfl ?_
    refine Gs_getI p174_42 (by first | rfl | assumption | exact (show isTale _ from by assumption).1 | exact (show isCamp _ _ from by assumption).1 | exact (show isRow _ _ from by assumption).1) (by rfl) ?_
    refine Gs_iret p174_45 rfl ⟨_, rfl, ?_⟩
    first
      | (rw [if_pos (by omega), if_pos (by omega)]; exact ⟨rfl, rfl⟩)
      | (rw [if_neg (by omega), if_neg (by omega)]; exact ⟨rfl, rfl⟩)
  · refine Gs_bipush p174_7 (by decide) ?_
    refine Gs_iret p174_9 rfl ⟨_, rfl, ?_⟩
    first
      | (rw [if_pos (by omega), if_pos (by omega)]; exact ⟨rfl, rfl⟩)
      | (rw [if_neg (by omega), if_neg (by omega)]; exact ⟨rfl, rfl⟩)

theorem pop20_A {s : St} {i : Nat} (h : i ≠ 16) (z : Int) : vA (popS s 20 8 14) i z = vA s i z := by rw [popS_A, if_neg (fun e => h e.1)]
theorem pop20_F {s : St} {i k : Nat} (h1 : ¬ (i = 20 ∧ k = 2)) (h2 : ¬ (i = 14 ∧ k = 2)) (h3 : ¬ (i = 15 ∧ k = 1)) : vF (popS s 20 8 14) i k = vF s i k := by rw [popS_F, if_neg h1, if_neg h2, if_neg (by omega)]
theorem un_A {s : St} {i : Nat} (h : i ≠ 98) (z : Int) : vA (unS s) i z = vA s i z := by rw [unS_A, if_neg (fun e => h e.1)]
theorem un_F {s : St} {i k : Nat} (h : ¬ (i = 95 ∧ k = 5)) : vF (unS s) i k = vF s i k := by rw [unS_F, if_neg h]
theorem T_undo {X : vX} {K : Int} {s : St} (hR : Rel K s) (hK : K < 512) : Both X K s 105 174 [] := by
  obtain ⟨h0, h1, h2, h3, h4, h5, h6⟩ := id hR
  obtain ⟨p1, p2, p3, p4, p5⟩ := hR.ok20 hK
  obtain ⟨f1, f2, f3, f4, f5, f6⟩ := id h5
  have hk : 0 < vF s 20 2 → CampRel s (slI s 20 8 (vF s 20 2 - 1)) 100 (33 * (vF s 20 2 - 1)) (vA s 96 2) (vF s 5 4) K := fun h => by
    have q := f6 (vF s 20 2 - 1).toNat (by omega)
    rw [show (((vF s 20 2 - 1).toNat : Nat) : Int) = vF s 20 2 - 1 by omega] at q
    exact q
  have A := k_undo (X := X) (n := vA s 96 2) ⟨p1, p2, p3, p4⟩ (fun h => (hk h).1)
  by_cases c : 0 < vF s 20 2
  · rw [if_pos c, if_pos c] at A
    have u5 : vF (popS s 20 8 14) 95 5 = vF s 20 2 := by rw [pop20_F (by omega) (by omega) (by omega)]; exact p5
    have B := m_undo (X := X) (s := popS s 20 8 14) ⟨by omega, by omega⟩
    rw [u5, if_neg (by omega), if_neg (by omega)] at B
    refine ⟨_, _, _, ⟨by omega, by omega⟩, A.more (by decide), B.more (by decide), ?_⟩
    have A' : ∀ a z, a ≠ 16 → a ≠ 98 → vA (unS (popS s 20 8 14)) a z = vA s a z := fun a z b0 b1 => by rw [un_A b1, pop20_A b0]
    have F' : ∀ a k, ¬ (a = 20 ∧ k = 2) → ¬ (a = 14 ∧ k = 2) → ¬ (a = 15 ∧ k = 1) → ¬ (a = 95 ∧ k = 5) → vF (unS (popS s 20 8 14)) a k = vF s a k := fun a k b0 b1 b2 b3 => by rw [un_F b3, pop20_F b0 b1 b2]
    have e96 : ∀ z, vA (unS (popS s 20 8 14)) 96 z = vA s 96 z := fun z => A' 96 z (by omega) (by omega)
    have e5 : vF (unS (popS s 20 8 14)) 5 4 = vF s 5 4 := F' 5 4 (by omega) (by omega) (by omega) (by omega)
    have g := hk c
    have gn := g.1.2.2.1
    have gn4 := g.1.2.1
    refine ⟨by omega, h1.cong (F' _ _ (by omega) (by omega) (by omega) (by omega)) (F' _ _ (by omega) (by omega) (by omega) (by omega)) (fun z => A' _ z (by omega) (by omega)) (fun z => A' _ z (by omega) (by omega)), h2.cong (F' _ _ (by omega) (by omega) (by omega) (by omega)) (F' _ _ (by omega) (by omega) (by omega) (by omega)) (fun z => A' _ z (by omega) (by omega)) (fun z => A' _ z (by omega) (by omega)), h3.cong e5 (F' _ _ (by omega) (by omega) (by omega) (by omega)) (F' _ _ (by omega) (by omega) (by omega) (by omega)) (fun z => A' _ z (by omega) (by omega)) (fun z => A' _ z (by omega) (by omega)) e96, ?_, ?_, ?_⟩
    · rw [e96, e5]
      refine CampRel.up (g.tr ?_ ?_ (fun z z0 z1 => ?_) (fun z z0 z1 => ?_)) (show K ≤ K + 1 by omega)
      · rw [un_F (by omega), popS_F, if_neg (by omega), if_neg (by omega), if_pos ⟨rfl, rfl⟩]
      · rw [un_F (by omega), popS_F, if_neg (by omega), if_pos ⟨rfl, rfl⟩]
      · rw [un_A (by omega), popS_A, if_pos ⟨rfl, z0, by omega⟩]
      · rw [unS_A, if_pos ⟨rfl, by omega, by omega⟩, u5, pop20_A (by omega)]
        congr 1; omega
    · rw [e96, e5]
      have s1 : vF (unS (popS s 20 8 14)) 20 1 = vF s 20 1 := F' _ _ (by omega) (by omega) (by omega) (by omega)
      have s2 : vF (unS (popS s 20 8 14)) 20 2 = vF s 20 2 - 1 := by rw [un_F (by omega), popS_F, if_pos ⟨rfl, rfl⟩]
      have s5 : vF (unS (popS s 20 8 14)) 95 5 = vF s 20 2 - 1 := by rw [unS_F, if_pos ⟨rfl, rfl⟩, u5]
      refine ⟨by omega, by omega, by omega, by omega, by omega, fun j hj => ?_⟩
      rw [s1]
      have hm : ((vF s 20 1 + (j : Int)) % 8).toNat < 8 := by omega
      exact CampRel_more ((f6 j (by omega)).cong (F' _ _ (by omega) (by omega) (by omega) (by omega)) (F' _ _ (by omega) (by omega) (by omega) (by omega)) (fun z => A' _ z (by omega) (by omega)) (fun z => A' _ z (by omega) (by omega)))
    · rw [e96, e5]
      exact (h6.cong (fun a ha z => A' a z (by omega) (by omega)) (fun a k ha => F' a k (by omega) (by omega) (by omega) (by omega))).more
  · rw [if_neg c, if_neg c] at A
    have B := m_undo (X := X) (s := s) ⟨by omega, by omega⟩
    rw [if_pos (by omega), if_pos (by omega)] at B
    exact Both.ask hR ⟨by omega, by omega⟩ (A.more (by decide)) (B.more (by decide)) (Kept.rfl' s)
set_option maxHeartbeats 1000000 in
set_option maxRecDepth 4000 in
theorem k_keep {X : vX} {s : St} {n : Int} (hC : CampOk s 14 n) (hp : 0 ≤ vF s 46 1 ∧ vF s 46 1 < 100000 ∧ 0 ≤ vF s 46 2 ∧ vF s 46 2 ≤ 2) : OkI X 5 118 [.ref 0] s (Is1 (if 2 ≤ vF s 46 2 then -3 else vF s 46 2 + 1) (if 2 ≤ vF s 46 2 then s else pushT s 46 2 14)) := by
  refine Ok.of (r := vm_m118) (ls := [some (.ref 0)]) rfl (Nat.le_of_ble_eq_true rfl) rfl (fun d hd => ?_)
  refine Gs_aload_n p118_0 rfl rfl ?_
  refine Gs_getR p118_1 (by first | rfl | assumption | exact (show isTale _ from by assumption).1 | exact (show isCamp _ _ from by assumption).1 | exact (show isRow _ _ from by assumption).1) (by rfl) ?_
  refine Gs_callV0I p118_4 (by rfl) (by rfl) (by first | rfl | assumption | exact (show isTale _ from by assumption).1 | exact (show isCamp _ _ from by assumption).1 | exact (show isRow _ _ from by assumption).1) (Nat.le_of_ble_eq_true rfl) (by decide) (c_SisFull shelf46 ⟨by omega, by omega⟩) (by omega) ?_
  refine Gs_ifb_eq (tgt := 13) p118_7 (by rfl) (fun h7 => ?_) (fun h7 => ?_)
  · refine Gs_aload_n p118_13 rfl rfl ?_
    refine Gs_getR p118_14 (by first | rfl | assumption | exact (show isTale _ from by assumption).1 | exact (show isCamp _ _ from by assumption).1 | exact (show isRow _ _ from by assumption).1) (by rfl) ?_
    refine Gs_aload_n p118_17 rfl rfl ?_
    refine Gs_getR p118_18 (by first | rfl | assumption | exact (show isTale _ from by assumption).1 | exact (show isCamp _ _ from by assumption).1 | exact (show isRow _ _ from by assumption).1) (by rfl) ?_
    refine Gs_callV1W p118_21 (by rfl) (by rfl) (by first | rfl | assumption | exact (show isTale _ from by assumption).1 | exact (show isCamp _ _ from by assumption).1 | exact (show isRow _ _ from by assumption).1) (Nat.le_of_ble_eq_true rfl) (by decide) (c_push shelf46 camp14 hC (by omega) hp.1 hp.2.1 hp.2.2.1 (by omega)) (by omega) ?_
    rw [show pushS s 46 2 14 = pushT s 46 2 14 from if_neg (by omega)]
    refine Gs_aload_n p118_24 rfl rfl ?_
    refine Gs_getR p118_25 (by first | rfl | assumption | exact (show isTale _ from by assumption).1 | exact (show isCamp _ _ from by assumption).1 | exact (show isRow _ _ from by assumption).1) (by rfl) ?_
    refine Gs_callV0I p118_28 (by rfl) (by rfl) (by first | rfl | assumption | exact (show isTale _ from by assumption).1 | exact (show isCamp _ _ from by assumption).1 | exact (show isRow _ _ from by assumption).1) (Nat.le_of_ble_eq_true rfl) (by decide) (c_Ssize shelf46) (by omega) ?_
    refine Gs_iret p118_31 rfl ⟨_, rfl, ?_⟩
    first
      | (rw [if_pos (by omega), if_pos (by omega)]; exact ⟨rfl, rfl⟩)
      | (rw [if_neg (by omega), if_neg (by omega)]; exact ⟨rfl, rfl⟩)
  · refine Gs_bipush p118_10 (by decide) ?_
    refine Gs_iret p118_12 rfl ⟨_, rfl, ?_⟩
    first
      | (rw [if_pos (by omega), if_pos (by omega)]; exact ⟨rfl, rfl⟩)
      | (rw [if_neg (by omega), if_neg (by omega)]; exact ⟨rfl, rfl⟩)

set_option maxHeartbeats 1000000 in
set_option maxRecDepth 4000 in
theorem m_keep {X : vX} {s : St} (hu : 0 ≤ vF s 95 7 ∧ vF s 95 7 ≤ 2) : OkI X 1 198 [.ref 95] s (Is1 (if vF s 95 7 = 2 then -3 else vF s 95 7 + 1) (if vF s 95 7 = 2 then s else kpS s)) := by
  refine Ok.of (r := vm_m198) (ls := [some (.ref 95)]) rfl (Nat.le_of_ble_eq_true rfl) rfl (fun d hd => ?_)
  refine Gs_aload_n p198_0 rfl rfl ?_
  refine Gs_getI p198_1 (by first | rfl | assumption | exact (show isTale _ from by assumption).1 | exact (show isCamp _ _ from by assumption).1 | exact (show isRow _ _ from by assumption).1) (by rfl) ?_
  refine Gs_iconst p198_4 ?_
  refine Gs_icmp_ne (tgt := 11) p198_5 (by rfl) (by first | assumption | exact ⟨by omega, by omega⟩ | (split <;> exact ⟨by omega, by omega⟩)) (by first | assumption | exact ⟨by omega, by omega⟩ | (split <;> exact ⟨by omega, by omega⟩)) (fun h5 => ?_) (fun h5 => ?_)
  · refine Gs_aload_n p198_11 rfl rfl ?_
    refine Gs_getR p198_12 (by first | rfl | assumption | exact (show isTale _ from by assumption).1 | exact (show isCamp _ _ from by assumption).1 | exact (show isRow _ _ from by assumption).1) (by rfl) ?_
    refine Gs_iconst p198_15 ?_
    refine Gs_aload_n p198_16 rfl rfl ?_
    refine Gs_getR p198_17 (by first | rfl | assumption | exact (show isTale _ from by assumption).1 | exact (show isCamp _ _ from by assumption).1 | exact (show isRow _ _ from by assumption).1) (by rfl) ?_
    refine Gs_bipush p198_20 (by decide) ?_
    refine Gs_aload_n p198_22 rfl rfl ?_
    refine Gs_getI p198_23 (by first | rfl | assumption | exact (show isTale _ from by assumption).1 | exact (show isCamp _ _ from by assumption).1 | exact (show isRow _ _ from by assumption).1) (by rfl) ?_
    refine Gs_imul p198_26 ?_
    refine Gs_bipush p198_27 (by decide) ?_
    refine Gs_callS5W p198_29 (by rfl) (Nat.le_of_ble_eq_true rfl) (by decide) (c_copies isA98 isA101 (by decide) (by omega) (by omega) (by omega) (by omega) (by omega) (by decide) (by decide)) (by omega) ?_
    refine Gs_aload_n p198_32 rfl rfl ?_
    refine Gs_dup p198_33 rfl ?_
    refine Gs_getI p198_34 (by first | rfl | assumption | exact (show isTale _ from by assumption).1 | exact (show isCamp _ _ from by assumption).1 | exact (show isRow _ _ from by assumption).1) (by rfl) ?_
    refine Gs_iconst p198_37 ?_
    refine Gs_iadd p198_38 ?_
    refine Gs_putI p198_39 (by first | rfl | assumption | exact (show isTale _ from by assumption).1 | exact (show isCamp _ _ from by assumption).1 | exact (show isRow _ _ from by assumption).1) (by rfl) (by rfl) (by rfl) ?_
    refine Gs_aload_n p198_42 rfl rfl ?_
    refine Gs_getI p198_43 (by first | rfl | assumption | exact (show isTale _ from by assumption).1 | exact (show isCamp _ _ from by assumption).1 | exact (show isRow _ _ from by assumption).1) (by rfl) ?_
    refine Gs_iret p198_46 rfl ⟨_, rfl, ?_⟩
    first
      | (rw [if_pos (by omega), if_pos (by omega)]; exact ⟨rfl, rfl⟩)
      | (rw [if_neg (by omega), if_neg (by omega)]; exact ⟨rfl, rfl⟩)
  · refine Gs_bipush p198_8 (by decide) ?_
    refine Gs_iret p198_10 rfl ⟨_, rfl, ?_⟩
    first
      | (rw [if_pos (by omega), if_pos (by omega)]; exact ⟨rfl, rfl⟩)
      | (rw [if_neg (by omega), if_neg (by omega)]; exact ⟨rfl, rfl⟩)

theorem kp_A {s : St} {i : Nat} (h : i ≠ 101) (z : Int) : vA (kpS s) i z = vA s i z := by rw [kpS_A, if_neg (fun e => h e.1)]
theorem kp_F {s : St} {i k : Nat} (h : ¬ (i = 95 ∧ k = 7)) : vF (kpS s) i k = vF s i k := by rw [kpS_F, if_neg h]
theorem pu46_A {s : St} {i : Nat} (h : i < 48 ∨ 54 ≤ i) (z : Int) : vA (pushT s 46 2 14) i z = vA s i z := by rw [pushT_A, sl46, if_neg (by omega)]
theorem pu46_F {s : St} {i k : Nat} (h : i < 46 ∨ 54 ≤ i) : vF (pushT s 46 2 14) i k = vF s i k := by rw [pushT_F, sl46, if_neg (by omega), if_neg (by omega), if_neg (by omega)]
theorem T_keep {X : vX} {K : Int} {s : St} (hR : Rel K s) (hK : K < 512) : Both X K s 118 198 [] := by
  obtain ⟨h0, h1, h2, h3, h4, h5, h6⟩ := id hR
  obtain ⟨f1, f2, f3, f4, f5⟩ := id h6
  have A := k_keep (X := X) h4.1 ⟨by omega, by omega, f2, f3⟩
  by_cases c : 2 ≤ vF s 46 2
  · rw [if_pos c, if_pos c] at A
    have B := m_keep (X := X) (s := s) ⟨by omega, by omega⟩
    rw [if_pos (by omega), if_pos (by omega)] at B
    exact Both.ask hR ⟨by omega, by omega⟩ (A.more (by decide)) (B.more (by decide)) (Kept.rfl' s)
  · rw [if_neg c, if_neg c] at A
    have u7 : vF (pushT s 46 2 14) 95 7 = vF s 46 2 := by rw [pu46_F (by omega)]; exact f4
    have B := m_keep (X := X) (s := pushT s 46 2 14) ⟨by omega, by omega⟩
    rw [u7, if_neg (by omega), if_neg (by omega)] at B
    refine ⟨_, _, _, ⟨by omega, by omega⟩, A.more (by decide), B.more (by decide), ?_⟩
    have A' : ∀ a z, (a < 48 ∨ 54 ≤ a) → a ≠ 101 → vA (kpS (pushT s 46 2 14)) a z = vA s a z := fun a z b0 b1 => by rw [kp_A b1, pu46_A b0]
    have F' : ∀ a k, (a < 46 ∨ 54 ≤ a) → ¬ (a = 95 ∧ k = 7) → vF (kpS (pushT s 46 2 14)) a k = vF s a k := fun a k b0 b1 => by rw [kp_F b1, pu46_F b0]
    have e96 : ∀ z, vA (kpS (pushT s 46 2 14)) 96 z = vA s 96 z := fun z => A' 96 z (by omega) (by omega)
    have e5 : vF (kpS (pushT s 46 2 14)) 5 4 = vF s 5 4 := F' 5 4 (by omega) (by omega)
    have gn := h4.1.2.2.1
    have gn' : vF s 15 1 = 8 * vA s 96 2 := gn
    have gn4 := h4.1.2.1
    refine ⟨by omega, h1.cong (F' _ _ (by omega) (by omega)) (F' _ _ (by omega) (by omega)) (fun z => A' _ z (by omega) (by omega)) (fun z => A' _ z (by omega) (by omega)), h2.cong (F' _ _ (by omega) (by omega)) (F' _ _ (by omega) (by omega)) (fun z => A' _ z (by omega) (by omega)) (fun z => A' _ z (by omega) (by omega)), h3.cong e5 (F' _ _ (by omega) (by omega)) (F' _ _ (by omega) (by omega)) (fun z => A' _ z (by omega) (by omega)) (fun z => A' _ z (by omega) (by omega)) e96, ?_, ?_, ?_⟩
    · rw [e96, e5]
      exact CampRel_more (h4.cong (F' _ _ (by omega) (by omega)) (F' _ _ (by omega) (by omega)) (fun z => A' _ z (by omega) (by omega)) (fun z => A' _ z (by omega) (by omega)))
    · rw [e96, e5]
      exact (h5.cong (fun a ha z => A' a z (by omega) (by omega)) (fun a k ha => F' a k (by omega) (by omega))).more
    · rw [e96, e5]
      have s1 : vF (kpS (pushT s 46 2 14)) 46 1 = 0 := by rw [kp_F (by omega), pushT_F, sl46, if_neg (by omega), if_neg (by omega), if_neg (by omega)]; exact f1
      have s2 : vF (kpS (pushT s 46 2 14)) 46 2 = vF s 46 2 + 1 := by rw [kp_F (by omega), pushT_F, if_pos ⟨rfl, rfl⟩]
      have s7 : vF (kpS (pushT s 46 2 14)) 95 7 = vF s 46 2 + 1 := by rw [kpS_F, if_pos ⟨rfl, rfl⟩, u7]
      refine ⟨s1, by omega, by omega, by omega, fun j hj => ?_⟩
      by_cases cj : (j : Int) = vF s 46 2
      · refine CampRel.up (h4.tr (c' := 48 + 3 * j) (a' := 101) (o' := 33 * j) ?_ ?_ (fun z z0 z1 => ?_) (fun z z0 z1 => ?_)) (show K ≤ K + 1 by omega)
        · rw [kp_F (by omega), pushT_F, sl46, f1, if_neg (by omega), if_neg (by omega), if_pos ⟨by omega, rfl⟩]
        · rw [kp_F (by omega), pushT_F, sl46, f1, if_neg (by omega), if_pos ⟨by omega, rfl⟩]
        · rw [kp_A (by omega), pushT_A, sl46, f1, if_pos ⟨by omega, z0, by show z < vF s 15 1; omega⟩]
        · rw [kpS_A, u7, if_pos ⟨rfl, by omega, by omega⟩, pu46_A (by omega)]
          congr 1; omega
      · refine CampRel.up ((f5 j (by omega)).tr ?_ ?_ (fun z z0 z1 => ?_) (fun z z0 z1 => ?_)) (show K ≤ K + 1 by omega)
        · rw [kp_F (by omega), pushT_F, sl46, f1, if_neg (by omega), if_neg (by omega), if_neg (by omega)]
        · rw [kp_F (by omega), pushT_F, sl46, f1, if_neg (by omega), if_neg (by omega), if_neg (by omega)]
        · rw [kp_A (by omega), pushT_A, sl46, f1, if_neg (by omega)]
        · rw [kpS_A, u7, if_neg (by omega), pu46_A (by omega)]
set_option maxHeartbeats 1000000 in
set_option maxRecDepth 4000 in
theorem k_back {X : vX} {s : St} {n : Int} (hp : 0 ≤ vF s 46 1 ∧ vF s 46 1 < 100000 ∧ 0 ≤ vF s 46 2 ∧ vF s 46 2 ≤ 2) (hk : 0 < vF s 46 2 → CampOk s (slI s 46 2 (vF s 46 2 - 1)) n) : OkI X 5 119 [.ref 0] s (Is1 (if 0 < vF s 46 2 then vF s 46 2 - 1 else -2) (if 0 < vF s 46 2 then sF (popS s 46 2 14) 20 2 0 else s)) := by
  refine Ok.of (r := vm_m119) (ls := [some (.ref 0)]) rfl (Nat.le_of_ble_eq_true rfl) rfl (fun d hd => ?_)
  refine Gs_aload_n p119_0 rfl rfl ?_
  refine Gs_getR p119_1 (by first | rfl | assumption | exact (show isTale _ from by assumption).1 | exact (show isCamp _ _ from by assumption).1 | exact (show isRow _ _ from by assumption).1) (by rfl) ?_
  refine Gs_aload_n p119_4 rfl rfl ?_
  refine Gs_getR p119_5 (by first | rfl | assumption | exact (show isTale _ from by assumption).1 | exact (show isCamp _ _ from by assumption).1 | exact (show isRow _ _ from by assumption).1) (by rfl) ?_
  refine Gs_callV1I p119_8 (by rfl) (by rfl) (by first | rfl | assumption | exact (show isTale _ from by assumption).1 | exact (show isCamp _ _ from by assumption).1 | exact (show isRow _ _ from by assumption).1) (Nat.le_of_ble_eq_true rfl) (by decide) (c_pop shelf46 camp14 hk (by omega) hp.1 hp.2.1 hp.2.2.1 (by omega)) (by omega) ?_
  refine Gs_ifb_ne (tgt := 17) p119_11 (by rfl) (fun h11 => ?_) (fun h11 => ?_)
  · rw [if_pos h11]
    refine Gs_aload_n p119_17 rfl rfl ?_
    refine Gs_getR p119_18 (by first | rfl | assumption | exact (show isTale _ from by assumption).1 | exact (show isCamp _ _ from by assumption).1 | exact (show isRow _ _ from by assumption).1) (by rfl) ?_
    refine Gs_callV0W p119_21 (by rfl) (by rfl) (by first | rfl | assumption | exact (show isTale _ from by assumption).1 | exact (show isCamp _ _ from by assumption).1 | exact (show isRow _ _ from by assumption).1) (Nat.le_of_ble_eq_true rfl) (by decide) (c_Sclear shelf20) (by omega) ?_
    refine Gs_aload_n p119_24 rfl rfl ?_
    refine Gs_getR p119_25 (by first | rfl | assumption | exact (show isTale _ from by assumption).1 | exact (show isCamp _ _ from by assumption).1 | exact (show isRow _ _ from by assumption).1) (by rfl) ?_
    refine Gs_callV0I p119_28 (by rfl) (by rfl) (by first | rfl | assumption | exact (show isTale _ from by assumption).1 | exact (show isCamp _ _ from by assumption).1 | exact (show isRow _ _ from by assumption).1) (Nat.le_of_ble_eq_true rfl) (by decide) (c_Ssize shelf46) (by omega) ?_
    refine Gs_iret p119_31 rfl ⟨_, rfl, ?_⟩
    first
      | (rw [if_pos h11]; refine ⟨?_, rfl⟩; rw [vF_sF, if_neg (by omega), popS_F, if_pos ⟨rfl, rfl⟩]; done)
      | (rw [if_pos h11, if_pos h11]; refine ⟨?_, rfl⟩; rw [vF_sF, if_neg (by omega), popS_F, if_pos ⟨rfl, rfl⟩]; done)
      | (rw [if_neg h11]; exact ⟨rfl, rfl⟩)
      | (rw [if_neg h11, if_neg h11]; exact ⟨rfl, rfl⟩)
  · rw [if_neg h11]
    refine Gs_bipush p119_14 (by decide) ?_
    refine Gs_iret p119_16 rfl ⟨_, rfl, ?_⟩
    first
      | (rw [if_pos h11]; refine ⟨?_, rfl⟩; rw [vF_sF, if_neg (by omega), popS_F, if_pos ⟨rfl, rfl⟩]; done)
      | (rw [if_pos h11, if_pos h11]; refine ⟨?_, rfl⟩; rw [vF_sF, if_neg (by omega), popS_F, if_pos ⟨rfl, rfl⟩]; done)
      | (rw [if_neg h11]; exact ⟨rfl, rfl⟩)
      | (rw [if_neg h11, if_neg h11]; exact ⟨rfl, rfl⟩)

set_option maxHeartbeats 1000000 in
set_option maxRecDepth 4000 in
theorem m_back {X : vX} {s : St} (hu : 0 ≤ vF s 95 7 ∧ vF s 95 7 ≤ 2) : OkI X 1 199 [.ref 95] s (Is1 (if vF s 95 7 = 0 then -2 else vF s 95 7 - 1) (if vF s 95 7 = 0 then s else bkS s)) := by
  refine Ok.of (r := vm_m199) (ls := [some (.ref 95)]) rfl (Nat.le_of_ble_eq_true rfl) rfl (fun d hd => ?_)
  have e7 : vF (sF s 95 7 (vF s 95 7 - 1)) 95 7 = vF s 95 7 - 1 := rfl
  refine Gs_aload_n p199_0 rfl rfl ?_
  refine Gs_getI p199_1 (by first | rfl | assumption | exact (show isTale _ from by assumption).1 | exact (show isCamp _ _ from by assumption).1 | exact (show isRow _ _ from by assumption).1) (by rfl) ?_
  refine Gs_if_ne (tgt := 10) p199_4 (by rfl) (by first | assumption | exact ⟨by omega, by omega⟩ | (split <;> exact ⟨by omega, by omega⟩)) (fun h4 => ?_) (fun h4 => ?_)
  · refine Gs_aload_n p199_10 rfl rfl ?_
    refine Gs_dup p199_11 rfl ?_
    refine Gs_getI p199_12 (by first | rfl | assumption | exact (show isTale _ from by assumption).1 | exact (show isCamp _ _ from by assumption).1 | exact (show isRow _ _ from by assumption).1) (by rfl) ?_
    refine Gs_iconst p199_15 ?_
    refine Gs_isub p199_16 ?_
    refine Gs_putI p199_17 (by first | rfl | assumption | exact (show isTale _ from by assumption).1 | exact (show isCamp _ _ from by assumption).1 | exact (show isRow _ _ from by assumption).1) (by rfl) (by rfl) (by rfl) ?_
    refine Gs_aload_n p199_20 rfl rfl ?_
    refine Gs_getR p199_21 (by first | rfl | assumption | exact (show isTale _ from by assumption).1 | exact (show isCamp _ _ from by assumption).1 | exact (show isRow _ _ from by assumption).1) (by rfl) ?_
    refine Gs_bipush p199_24 (by decide) ?_
    refine Gs_aload_n p199_26 rfl rfl ?_
    refine Gs_getI p199_27 (by first | rfl | assumption | exact (show isTale _ from by assumption).1 | exact (show isCamp _ _ from by assumption).1 | exact (show isRow _ _ from by assumption).1) (by rfl) ?_
    rw [e7]
    refine Gs_imul p199_30 ?_
    refine Gs_aload_n p199_31 rfl rfl ?_
    refine Gs_getR p199_32 (by first | rfl | assumption | exact (show isTale _ from by assumption).1 | exact (show isCamp _ _ from by assumption).1 | exact (show isRow _ _ from by assumption).1) (by rfl) ?_
    refine Gs_iconst p199_35 ?_
    refine Gs_bipush p199_36 (by decide) ?_
    refine Gs_callS5W p199_38 (by rfl) (Nat.le_of_ble_eq_true rfl) (by decide) (c_copies isA101 isA98 (by decide) (by omega) (by omega) (by omega) (by omega) (by omega) (by decide) (by decide)) (by omega) ?_
    refine Gs_aload_n p199_41 rfl rfl ?_
    refine Gs_iconst p199_42 ?_
    refine Gs_putI p199_43 (by first | rfl | assumption | exact (show isTale _ from by assumption).1 | exact (show isCamp _ _ from by assumption).1 | exact (show isRow _ _ from by assumption).1) (by rfl) (by rfl) (by rfl) ?_
    refine Gs_aload_n p199_46 rfl rfl ?_
    refine Gs_getI p199_47 (by first | rfl | assumption | exact (show isTale _ from by assumption).1 | exact (show isCamp _ _ from by assumption).1 | exact (show isRow _ _ from by assumption).1) (by rfl) ?_
    refine Gs_iret p199_50 rfl ⟨_, rfl, ?_⟩
    first
      | (rw [if_pos (by omega), if_pos (by omega)]; exact ⟨rfl, rfl⟩)
      | (rw [if_neg (by omega), if_neg (by omega)]; exact ⟨rfl, rfl⟩)
  · refine Gs_bipush p199_7 (by decide) ?_
    refine Gs_iret p199_9 rfl ⟨_, rfl, ?_⟩
    first
      | (rw [if_pos (by omega), if_pos (by omega)]; exact ⟨rfl, rfl⟩)
      | (rw [if_neg (by omega), if_neg (by omega)]; exact ⟨rfl, rfl⟩)

theorem bk_A {s : St} {i : Nat} (h : i ≠ 98) (z : Int) : vA (bkS s) i z = vA s i z := by rw [bkS_A, if_neg (fun e => h e.1)]
theorem bk_F {s : St} {i k : Nat} (h : ¬ (i = 95 ∧ (k = 7 ∨ k = 5))) : vF (bkS s) i k = vF s i k := by rw [bkS_F, if_neg (by omega), if_neg (by omega)]
theorem T_back {X : vX} {K : Int} {s : St} (hR : Rel K s) (hK : K < 512) : Both X K s 119 199 [] := by
  obtain ⟨h0, h1, h2, h3, h4, h5, h6⟩ := id hR
  obtain ⟨f1, f2, f3, f4, f5⟩ := id h6
  obtain ⟨p1, p2, p3, p4, p5⟩ := hR.ok20 hK
  have hk : 0 < vF s 46 2 → CampRel s (slI s 46 2 (vF s 46 2 - 1)) 101 (33 * (vF s 46 2 - 1)) (vA s 96 2) (vF s 5 4) K := fun h => by
    have q := f5 (vF s 46 2 - 1).toNat (by omega)
    rw [show (((vF s 46 2 - 1).toNat : Nat) : Int) = vF s 46 2 - 1 by omega] at q
    rw [sl46, f1, show (((0 : Int) + (vF s 46 2 - 1)) % 2).toNat = (vF s 46 2 - 1).toNat by omega]
    exact q
  have A := k_back (X := X) (n := vA s 96 2) ⟨by omega, by omega, f2, f3⟩ (fun h => (hk h).1)
  by_cases c : 0 < vF s 46 2
  · rw [if_pos c, if_pos c] at A
    have u7 : vF (sF (popS s 46 2 14) 20 2 0) 95 7 = vF s 46 2 := by rw [vF_sF, if_neg (by omega), popS_F, if_neg (by omega), if_neg (by omega), if_neg (by omega)]; exact f4
    have B := m_back (X := X) (s := sF (popS s 46 2 14) 20 2 0) ⟨by omega, by omega⟩
    rw [u7, if_neg (by omega), if_neg (by omega)] at B
    refine ⟨_, _, _, ⟨by omega, by omega⟩, A.more (by decide), B.more (by decide), ?_⟩
    have A' : ∀ a z, a ≠ 16 → a ≠ 98 → vA (bkS (sF (popS s 46 2 14) 20 2 0)) a z = vA s a z := fun a z b0 b1 => by rw [bk_A b1, vA_sF, popS_A, if_neg (by omega)]
    have F' : ∀ a k, ¬ (a = 46 ∧ k = 2) → ¬ (a = 20 ∧ k = 2) → ¬ (a = 14 ∧ k = 2) → ¬ (a = 15 ∧ k = 1) → ¬ (a = 95 ∧ (k = 7 ∨ k = 5)) → vF (bkS (sF (popS s 46 2 14) 20 2 0)) a k = vF s a k := fun a k b0 b1 b2 b3 b4 => by rw [bk_F b4, vF_sF, if_neg b1, popS_F, if_neg b0, if_neg b2, if_neg (by omega)]
    have e96 : ∀ z, vA (bkS (sF (popS s 46 2 14) 20 2 0)) 96 z = vA s 96 z := fun z => A' 96 z (by omega) (by omega)
    have e5 : vF (bkS (sF (popS s 46 2 14) 20 2 0)) 5 4 = vF s 5 4 := F' 5 4 (by omega) (by omega) (by omega) (by omega) (by omega)
    have g := hk c
    have gn := g.1.2.2.1
    have gn4 := g.1.2.1
    refine ⟨by omega, h1.cong (F' _ _ (by omega) (by omega) (by omega) (by omega) (by omega)) (F' _ _ (by omega) (by omega) (by omega) (by omega) (by omega)) (fun z => A' _ z (by omega) (by omega)) (fun z => A' _ z (by omega) (by omega)), h2.cong (F' _ _ (by omega) (by omega) (by omega) (by omega) (by omega)) (F' _ _ (by omega) (by omega) (by omega) (by omega) (by omega)) (fun z => A' _ z (by omega) (by omega)) (fun z => A' _ z (by omega) (by omega)), h3.cong e5 (F' _ _ (by omega) (by omega) (by omega) (by omega) (by omega)) (F' _ _ (by omega) (by omega) (by omega) (by omega) (by omega)) (fun z => A' _ z (by omega) (by omega)) (fun z => A' _ z (by omega) (by omega)) e96, ?_, ?_, ?_⟩
    · rw [e96, e5]
      refine CampRel.up (g.tr ?_ ?_ (fun z z0 z1 => ?_) (fun z z0 z1 => ?_)) (show K ≤ K + 1 by omega)
      · rw [bk_F (by omega), vF_sF, if_neg (by omega), popS_F, if_neg (by omega), if_neg (by omega), if_pos ⟨rfl, rfl⟩]
      · rw [bk_F (by omega), vF_sF, if_neg (by omega), popS_F, if_neg (by omega), if_pos ⟨rfl, rfl⟩]
      · rw [bk_A (by omega), vA_sF, popS_A, if_pos ⟨rfl, z0, by omega⟩]
      · rw [bkS_A, if_pos ⟨rfl, by omega, by omega⟩, u7, vA_sF, popS_A, if_neg (by omega)]
        congr 1; omega
    · rw [e96, e5]
      have s1 : vF (bkS (sF (popS s 46 2 14) 20 2 0)) 20 1 = vF s 20 1 := F' _ _ (by omega) (by omega) (by omega) (by omega) (by omega)
      have s2 : vF (bkS (sF (popS s 46 2 14) 20 2 0)) 20 2 = 0 := by rw [bk_F (by omega), vF_sF, if_pos ⟨rfl, rfl⟩]
      have s5 : vF (bkS (sF (popS s 46 2 14) 20 2 0)) 95 5 = 0 := by rw [bkS_F, if_pos ⟨rfl, rfl⟩]
      have q5 := h5.2.1
      exact ⟨by omega, by omega, by omega, by omega, by omega, fun j hj => absurd hj (by omega)⟩
    · rw [e96, e5]
      have s1 : vF (bkS (sF (popS s 46 2 14) 20 2 0)) 46 1 = vF s 46 1 := F' _ _ (by omega) (by omega) (by omega) (by omega) (by omega)
      have s2 : vF (bkS (sF (popS s 46 2 14) 20 2 0)) 46 2 = vF s 46 2 - 1 := by rw [bk_F (by omega), vF_sF, if_neg (by omega), popS_F, if_pos ⟨rfl, rfl⟩]
      have s7 : vF (bkS (sF (popS s 46 2 14) 20 2 0)) 95 7 = vF s 46 2 - 1 := by rw [bkS_F, if_neg (by omega), if_pos ⟨rfl, rfl⟩, u7]
      refine ⟨by omega, by omega, by omega, by omega, fun j hj => ?_⟩
      exact CampRel_more ((f5 j (by omega)).cong (F' _ _ (by omega) (by omega) (by omega) (by omega) (by omega)) (F' _ _ (by omega) (by omega) (by omega) (by omega) (by omega)) (fun z => A' _ z (by omega) (by omega)) (fun z => A' _ z (by omega) (by omega)))
  · rw [if_neg c, if_neg c] at A
    have B := m_back (X := X) (s := s) ⟨by omega, by omega⟩
    rw [if_pos (by omega), if_pos (by omega)] at B
    exact Both.ask hR ⟨by omega, by omega⟩ (A.more (by decide)) (B.more (by decide)) (Kept.rfl' s)