/-! shelves and the reference's copies -/
def isShelf (r N : Nat) : Prop := ly r = (0, 6, [some (r + 1), none, none]) ∧ (∃ fs, ly (r + 1) = (2, N, fs) ∧ ∀ j, j < N → fs[j]? = some (some (r + 2 + 3 * j))) ∧ (∀ j, j < N → isCamp (r + 2 + 3 * j) 5) ∧ 1 ≤ N ∧ N ≤ 8
theorem shelf20 : isShelf 20 8 := by
  refine ⟨rfl, ⟨_, rfl, fun j hj => ?_⟩, fun j hj => ?_, by decide, by decide⟩
  · have h : j = 0 ∨ j = 1 ∨ j = 2 ∨ j = 3 ∨ j = 4 ∨ j = 5 ∨ j = 6 ∨ j = 7 := by omega
    rcases h with rfl | rfl | rfl | rfl | rfl | rfl | rfl | rfl <;> rfl
  · have h : j = 0 ∨ j = 1 ∨ j = 2 ∨ j = 3 ∨ j = 4 ∨ j = 5 ∨ j = 6 ∨ j = 7 := by omega
    rcases h with rfl | rfl | rfl | rfl | rfl | rfl | rfl | rfl <;> exact ⟨rfl, rfl, rfl, by decide⟩
theorem shelf46 : isShelf 46 2 := by
  refine ⟨rfl, ⟨_, rfl, fun j hj => ?_⟩, fun j hj => ?_, by decide, by decide⟩
  · have h : j = 0 ∨ j = 1 := by omega
    rcases h with rfl | rfl <;> rfl
  · have h : j = 0 ∨ j = 1 := by omega
    rcases h with rfl | rfl <;> exact ⟨rfl, rfl, rfl, by decide⟩
/-- the id of the camp at a place of a shelf -/
def slI (s : St) (r N : Nat) (p : Int) : Nat := r + 2 + 3 * ((vF s r 1 + p) % N).toNat
/-- camp c as camp o is -/
def cpC (s : St) (c o : Nat) : St := sF (sCopyA s (c + 1) (c + 2) (o + 1) (o + 2)) c 2 (vF s o 2)
theorem cpC_A (s : St) (c o i : Nat) (z : Int) : vA (cpC s c o) i z = if i = c + 2 ∧ 0 ≤ z ∧ z < vF s (o + 1) 1 then vA s (o + 2) z else vA s i z := rfl
theorem cpC_F (s : St) (c o i k : Nat) : vF (cpC s c o) i k = if i = c ∧ k = 2 then vF s o 2 else if i = c + 1 ∧ k = 1 then vF s (o + 1) 1 else vF s i k := rfl
def pushT (s : St) (r N c : Nat) : St := sF (cpC s (slI s r N (vF s r 2)) c) r 2 (vF s r 2 + 1)
def pushF (s : St) (r : Nat) : St := sF (sF s r 1 (vF s r 1 + 1)) r 2 (vF s r 2 - 1)
def pushS (s : St) (r N c : Nat) : St := if (N : Int) ≤ vF s r 2 then pushT (pushF s r) r N c else pushT s r N c
def popS (s : St) (r N c : Nat) : St := sF (cpC s c (slI s r N (vF s r 2 - 1))) r 2 (vF s r 2 - 1)
theorem pushF_F (s : St) (r i k : Nat) : vF (pushF s r) i k = if i = r ∧ k = 2 then vF s r 2 - 1 else if i = r ∧ k = 1 then vF s r 1 + 1 else vF s i k := rfl
set_option maxHeartbeats 1000000 in
set_option maxRecDepth 4000 in
theorem c_Ssize {X : vX} {s : St} {r N : Nat} (hs : isShelf r N) : OkI X 0 64 [.ref r] s (Is1 (vF s r 2) s) := by
  refine Ok.of (r := vm_m64) (ls := [some (.ref r)]) rfl (Nat.le_of_ble_eq_true rfl) rfl (fun d hd => ?_)
  obtain ⟨hy, ⟨fs, hf, hj⟩, hcs, hN1, hN8⟩ := id hs
  refine Gs_aload_n p64_0 rfl rfl ?_
  refine Gs_getI p64_1 (by first | rfl | assumption | exact (show isTale _ from by assumption).1 | exact (show isCamp _ _ from by assumption).1 | exact (show isRow _ _ from by assumption).1) (by rfl) ?_
  refine Gs_iret p64_4 rfl ⟨_, rfl, ?_⟩
  first | exact ⟨rfl, rfl⟩ | exact ⟨by ((repeat' split) <;> omega), rfl⟩ | (simp only [Is1, Is0]; refine ⟨?_, rfl⟩; (repeat' split) <;> omega)

set_option maxHeartbeats 1000000 in
set_option maxRecDepth 4000 in
theorem c_SisFull {X : vX} {s : St} {r N : Nat} (hs : isShelf r N) (hz : rg (vF s r 2)) : OkI X 0 65 [.ref r] s (Is1 (if (N : Int) ≤ vF s r 2 then 1 else 0) s) := by
  refine Ok.of (r := vm_m65) (ls := [some (.ref r)]) rfl (Nat.le_of_ble_eq_true rfl) rfl (fun d hd => ?_)
  obtain ⟨hy, ⟨fs, hf, hj⟩, hcs, hN1, hN8⟩ := id hs
  refine Gs_aload_n p65_0 rfl rfl ?_
  refine Gs_getI p65_1 (by first | rfl | assumption | exact (show isTale _ from by assumption).1 | exact (show isCamp _ _ from by assumption).1 | exact (show isRow _ _ from by assumption).1) (by rfl) ?_
  refine Gs_aload_n p65_4 rfl rfl ?_
  refine Gs_getR p65_5 (by first | rfl | assumption | exact (show isTale _ from by assumption).1 | exact (show isCamp _ _ from by assumption).1 | exact (show isRow _ _ from by assumption).1) (by rfl) ?_
  refine Gs_alenR p65_8 (by first | rfl | assumption | exact (show isTale _ from by assumption).1 | exact (show isCamp _ _ from by assumption).1 | exact (show isRow _ _ from by assumption).1) ?_
  refine Gs_icmp_lt (tgt := 16) p65_9 (by rfl) (by first | assumption | exact ⟨by omega, by omega⟩ | (split <;> exact ⟨by omega, by omega⟩)) (by first | assumption | exact ⟨by omega, by omega⟩ | (split <;> exact ⟨by omega, by omega⟩)) (fun h9 => ?_) (fun h9 => ?_)
  · refine Gs_iconst p65_16 ?_
    refine Gs_zret p65_17 rfl (by first | exact Or.inl rfl | exact Or.inr rfl | (split <;> first | exact Or.inl rfl | exact Or.inr rfl)) ⟨_, rfl, ?_⟩
    first | exact ⟨rfl, rfl⟩ | exact ⟨by ((repeat' split) <;> omega), rfl⟩ | (simp only [Is1, Is0]; refine ⟨?_, rfl⟩; (repeat' split) <;> omega)
  · refine Gs_iconst p65_12 ?_
    refine Gs_goto (tgt := 17) p65_13 (by rfl) ?_
    refine Gs_zret p65_17 rfl (by first | exact Or.inl rfl | exact Or.inr rfl | (split <;> first | exact Or.inl rfl | exact Or.inr rfl)) ⟨_, rfl, ?_⟩
    first | exact ⟨rfl, rfl⟩ | exact ⟨by ((repeat' split) <;> omega), rfl⟩ | (simp only [Is1, Is0]; refine ⟨?_, rfl⟩; (repeat' split) <;> omega)

set_option maxHeartbeats 1000000 in
set_option maxRecDepth 4000 in
theorem c_Sclear {X : vX} {s : St} {r N : Nat} (hs : isShelf r N) : OkV X 0 66 [.ref r] s (Is0 (sF s r 2 0)) := by
  refine Ok.of (r := vm_m66) (ls := [some (.ref r)]) rfl (Nat.le_of_ble_eq_true rfl) rfl (fun d hd => ?_)
  obtain ⟨hy, ⟨fs, hf, hj⟩, hcs, hN1, hN8⟩ := id hs
  refine Gs_aload_n p66_0 rfl rfl ?_
  refine Gs_iconst p66_1 ?_
  refine Gs_putI p66_2 (by first | rfl | assumption | exact (show isTale _ from by assumption).1 | exact (show isCamp _ _ from by assumption).1 | exact (show isRow _ _ from by assumption).1) (by rfl) (by rfl) (by rfl) ?_
  refine Gs_vret p66_5 rfl ⟨rfl, ?_⟩
  rfl

set_option maxHeartbeats 1000000 in
set_option maxRecDepth 4000 in
theorem c_slotOf {X : vX} {s : St} {r N : Nat} (hs : isShelf r N) {p : Int} (b0 : 0 ≤ vF s r 1 + p) (b1 : vF s r 1 + p < 2147483648) : OkR X 1 69 [.ref r, .int (iI p)] s (IsR (slI s r N p) s) := by
  refine Ok.of (r := vm_m69) (ls := [some (.ref r), some (.int (iI p)), none]) rfl (Nat.le_of_ble_eq_true rfl) rfl (fun d hd => ?_)
  obtain ⟨hy, ⟨fs, hf, hj⟩, hcs, hN1, hN8⟩ := id hs
  refine Gs_aload_n p69_0 rfl rfl ?_
  refine Gs_getR p69_1 (by first | rfl | assumption | exact (show isTale _ from by assumption).1 | exact (show isCamp _ _ from by assumption).1 | exact (show isRow _ _ from by assumption).1) (by rfl) ?_
  refine Gs_alenR p69_4 (by first | rfl | assumption | exact (show isTale _ from by assumption).1 | exact (show isCamp _ _ from by assumption).1 | exact (show isRow _ _ from by assumption).1) ?_
  refine Gs_ist2 p69_5 (by first | rfl | assumption) ?_
  refine Gs_iload_n p69_6 rfl rfl ?_
  refine Gs_if_le (tgt := 28) p69_7 (by rfl) (by first | assumption | exact ⟨by omega, by omega⟩ | (split <;> exact ⟨by omega, by omega⟩)) (fun h7 => absurd ‹_› (by first | omega | assumption)) (fun h7 => ?_)
  refine Gs_aload_n p69_10 rfl rfl ?_
  refine Gs_getR p69_11 (by first | rfl | assumption | exact (show isTale _ from by assumption).1 | exact (show isCamp _ _ from by assumption).1 | exact (show isRow _ _ from by assumption).1) (by rfl) ?_
  refine Gs_aload_n p69_14 rfl rfl ?_
  refine Gs_getI p69_15 (by first | rfl | assumption | exact (show isTale _ from by assumption).1 | exact (show isCamp _ _ from by assumption).1 | exact (show isRow _ _ from by assumption).1) (by rfl) ?_
  refine Gs_iload_n p69_18 rfl rfl ?_
  refine Gs_iadd p69_19 ?_
  refine Gs_iload_n p69_20 rfl rfl ?_
  refine Gs_callS2I p69_21 (by rfl) (Nat.le_of_ble_eq_true rfl) (by decide) (c_floorMod b0 b1 (by omega) (by omega) (iI_xor b0 b1 (by omega) (by omega))) (by omega) ?_
  refine Gs_aald p69_24 hf (Int.emod_nonneg _ (show (N : Int) ≠ 0 by omega)) (Int.emod_lt_of_pos _ (show 0 < (N : Int) by omega)) (by omega) (hj _ (by have := Int.emod_lt_of_pos (vF s r 1 + p) (show 0 < (N : Int) by omega); have := Int.emod_nonneg (vF s r 1 + p) (show (N : Int) ≠ 0 by omega); omega)) ?_
  refine Gs_goto (tgt := 29) p69_25 (by rfl) ?_
  refine Gs_aret (n := 0) p69_29 rfl ⟨_, rfl, ?_⟩
  exact ⟨rfl, rfl⟩

set_option maxHeartbeats 1000000 in
set_option maxRecDepth 4000 in
theorem c_Cbecome {X : vX} {s : St} {c t o u : Nat} {n : Int} (hc : isCamp c t) (ho : isCamp o u) (hk : CampOk s o n) (d1 : c + 2 ≠ o + 2) (d2 : c + 1 ≠ o + 2) (d3 : o + 1 ≠ c + 2) (d4 : o ≠ c + 1) : OkV X 3 2 [.ref c, .ref o] s (Is0 (cpC s c o)) := by
  refine Ok.of (r := vm_m2) (ls := [some (.ref c), some (.ref o)]) rfl (Nat.le_of_ble_eq_true rfl) rfl (fun d hd => ?_)
  obtain ⟨hy, hr⟩ := id hc
  obtain ⟨hy2, hr2⟩ := id ho
  obtain ⟨k1, k2, k3, k4, k5, k6⟩ := id hk
  have eH : vF (sCopyA s (c + 1) (c + 2) (o + 1) (o + 2)) o 2 = vF s o 2 := by
    show (if o = c + 1 ∧ 2 = 1 then _ else _) = _
    rw [if_neg (by omega)]; rfl
  refine Gs_aload_n p2_0 rfl rfl ?_
  refine Gs_getR p2_1 (by first | rfl | assumption | exact (show isTale _ from by assumption).1 | exact (show isCamp _ _ from by assumption).1 | exact (show isRow _ _ from by assumption).1) (by rfl) ?_
  refine Gs_aload_n p2_4 rfl rfl ?_
  refine Gs_getR p2_5 (by first | rfl | assumption | exact (show isTale _ from by assumption).1 | exact (show isCamp _ _ from by assumption).1 | exact (show isRow _ _ from by assumption).1) (by rfl) ?_
  refine Gs_callV1W p2_8 (by rfl) (by rfl) hr.1 (Nat.le_of_ble_eq_true rfl) (by decide) (c_abecome (a := c + 2) (b := o + 2) hr hr2 rfl rfl d1 ⟨d2, d3⟩ (by omega) (by omega) (by omega)) (by omega) ?_
  refine Gs_aload_n p2_11 rfl rfl ?_
  refine Gs_aload_n p2_12 rfl rfl ?_
  refine Gs_getI p2_13 (by first | rfl | assumption | exact (show isTale _ from by assumption).1 | exact (show isCamp _ _ from by assumption).1 | exact (show isRow _ _ from by assumption).1) (by rfl) ?_
  rw [eH]
  refine Gs_putI p2_16 (by first | rfl | assumption | exact (show isTale _ from by assumption).1 | exact (show isCamp _ _ from by assumption).1 | exact (show isRow _ _ from by assumption).1) (by rfl) (by rfl) (by rfl) ?_
  refine Gs_vret p2_19 rfl ⟨rfl, ?_⟩
  rfl

set_option maxHeartbeats 1000000 in
theorem l_push {X : vX} {s : St} {d r N : Nat} {Q : Option Value → St → Prop} (hs : isShelf r N) {t c : Nat} {n : Int} (hc : isCamp c t) (hk : CampOk s c n) (hd3 : 4 ≤ d) (hd : c + 3 ≤ r) (b0 : 0 ≤ vF s r 1) (b1 : vF s r 1 ≤ 100000) (b2 : 0 ≤ vF s r 2) (b3 : vF s r 2 ≤ 100) (hQ : Q none (pushT s r N c)) : Gs X d 67 27 [some (.ref r), some (.ref c), none] [] s Q := by
  obtain ⟨hy, ⟨fs, hf, hj⟩, hcs, hN1, hN8⟩ := id hs
  have hm : slI s r N (vF s r 2) = r + 2 + 3 * ((vF s r 1 + vF s r 2) % N).toNat := rfl
  have hl : ((vF s r 1 + vF s r 2) % N).toNat < N := by
    have := Int.emod_lt_of_pos (vF s r 1 + vF s r 2) (show 0 < (N : Int) by omega)
    have := Int.emod_nonneg (vF s r 1 + vF s r 2) (show (N : Int) ≠ 0 by omega)
    omega
  have hcR : isCamp (slI s r N (vF s r 2)) 5 := hcs _ hl
  refine Gs_aload_n p67_27 rfl rfl ?_
  refine Gs_aload_n p67_28 rfl rfl ?_
  refine Gs_getI p67_29 (by first | rfl | assumption | exact (show isTale _ from by assumption).1 | exact (show isCamp _ _ from by assumption).1 | exact (show isRow _ _ from by assumption).1) (by rfl) ?_
  refine Gs_callV1R p67_32 (by rfl) (by rfl) (by first | rfl | assumption | exact (show isTale _ from by assumption).1 | exact (show isCamp _ _ from by assumption).1 | exact (show isRow _ _ from by assumption).1) (Nat.le_of_ble_eq_true rfl) (by decide) (c_slotOf hs (by omega) (by omega)) (by omega) ?_
  refine Gs_ast2 p67_35 (by first | rfl | assumption) ?_
  refine Gs_aload_n p67_36 rfl rfl ?_
  refine Gs_ifnullR (tgt := 55) p67_37 (by rfl) ?_
  refine Gs_aload_n p67_40 rfl rfl ?_
  refine Gs_aload_n p67_41 rfl rfl ?_
  have eSz : vF (cpC s (slI s r N (vF s r 2)) c) r 2 = vF s r 2 := by
    rw [cpC_F, if_neg (by omega), if_neg (by omega)]
  refine Gs_callV1W p67_42 (by rfl) (by rfl) hcR.1 (Nat.le_of_ble_eq_true rfl) (by decide) (c_Cbecome hcR hc hk (by omega) (by omega) (by omega) (by omega)) (by omega) ?_
  refine Gs_aload_n p67_45 rfl rfl ?_
  refine Gs_dup p67_46 rfl ?_
  refine Gs_getI p67_47 (by first | rfl | assumption | exact (show isTale _ from by assumption).1 | exact (show isCamp _ _ from by assumption).1 | exact (show isRow _ _ from by assumption).1) (by rfl) ?_
  rw [eSz]
  refine Gs_iconst p67_50 ?_
  refine Gs_iadd p67_51 ?_
  refine Gs_putI p67_52 (by first | rfl | assumption | exact (show isTale _ from by assumption).1 | exact (show isCamp _ _ from by assumption).1 | exact (show isRow _ _ from by assumption).1) (by rfl) (by rfl) (by rfl) ?_
  refine Gs_vret p67_55 rfl ?_
  exact hQ
set_option maxHeartbeats 1000000 in
/-- a copy of a camp is laid on a shelf -/
theorem c_push {X : vX} {s : St} {r N : Nat} (hs : isShelf r N) {t c : Nat} {n : Int} (hc : isCamp c t) (hk : CampOk s c n) (hd : c + 3 ≤ r) (b0 : 0 ≤ vF s r 1) (b1 : vF s r 1 < 100000) (b2 : 0 ≤ vF s r 2) (b3 : vF s r 2 ≤ N) : OkV X 4 67 [.ref r, .ref c] s (Is0 (pushS s r N c)) := by
  refine Ok.of (r := vm_m67) (ls := [some (.ref r), some (.ref c), none]) rfl (Nat.le_of_ble_eq_true rfl) rfl (fun d hd4 => ?_)
  obtain ⟨hy, ⟨fs, hf, hj⟩, hcs, hN1, hN8⟩ := id hs
  refine Gs_aload_n p67_0 rfl rfl ?_
  refine Gs_callV0I p67_1 (by rfl) (by rfl) (by first | rfl | assumption | exact (show isTale _ from by assumption).1 | exact (show isCamp _ _ from by assumption).1 | exact (show isRow _ _ from by assumption).1) (Nat.le_of_ble_eq_true rfl) (by decide) (c_SisFull hs ⟨by omega, by omega⟩) (by omega) ?_
  refine Gs_ifb_eq (tgt := 27) p67_4 (by rfl) (fun h4 => ?_) (fun h4 => ?_)
  · first
      | (have hk2 : CampOk (pushF s r) c n := hk.cong (by rw [pushF_F, if_neg (by omega), if_neg (by omega)]) (by rw [pushF_F, if_neg (by omega), if_neg (by omega)]) (fun _ => rfl)
         have f1 : vF (pushF s r) r 1 = vF s r 1 + 1 := by rw [pushF_F, if_neg (by omega), if_pos ⟨rfl, rfl⟩]
         have f2 : vF (pushF s r) r 2 = vF s r 2 - 1 := by rw [pushF_F, if_pos ⟨rfl, rfl⟩]
         refine l_push (s := pushF s r) (Q := fun v t => v = none ∧ Is0 (pushS s r N c) t) hs hc hk2 (by omega) hd (by omega) (by omega) (by omega) (by omega) ⟨rfl, ?_⟩
         show _ = pushS s r N c
         unfold pushS
         rw [if_pos h4]; done)
      | (refine l_push hs hc hk (by omega) hd b0 (by omega) b2 (by omega) ⟨rfl, ?_⟩
         show _ = pushS s r N c
         unfold pushS
         rw [if_neg h4])
  · have e1 : vF (sF s r 1 (vF s r 1 + 1)) r 2 = vF s r 2 := by rw [vF_sF, if_neg (by omega)]
    refine Gs_aload_n p67_7 rfl rfl ?_
    refine Gs_dup p67_8 rfl ?_
    refine Gs_getI p67_9 (by first | rfl | assumption | exact (show isTale _ from by assumption).1 | exact (show isCamp _ _ from by assumption).1 | exact (show isRow _ _ from by assumption).1) (by rfl) ?_
    refine Gs_iconst p67_12 ?_
    refine Gs_iadd p67_13 ?_
    refine Gs_putI p67_14 (by first | rfl | assumption | exact (show isTale _ from by assumption).1 | exact (show isCamp _ _ from by assumption).1 | exact (show isRow _ _ from by assumption).1) (by rfl) (by rfl) (by rfl) ?_
    refine Gs_aload_n p67_17 rfl rfl ?_
    refine Gs_dup p67_18 rfl ?_
    refine Gs_getI p67_19 (by first | rfl | assumption | exact (show isTale _ from by assumption).1 | exact (show isCamp _ _ from by assumption).1 | exact (show isRow _ _ from by assumption).1) (by rfl) ?_
    rw [e1]
    refine Gs_iconst p67_22 ?_
    refine Gs_isub p67_23 ?_
    refine Gs_putI p67_24 (by first | rfl | assumption | exact (show isTale _ from by assumption).1 | exact (show isCamp _ _ from by assumption).1 | exact (show isRow _ _ from by assumption).1) (by rfl) (by rfl) (by rfl) ?_
    first
      | (have hk2 : CampOk (pushF s r) c n := hk.cong (by rw [pushF_F, if_neg (by omega), if_neg (by omega)]) (by rw [pushF_F, if_neg (by omega), if_neg (by omega)]) (fun _ => rfl)
         have f1 : vF (pushF s r) r 1 = vF s r 1 + 1 := by rw [pushF_F, if_neg (by omega), if_pos ⟨rfl, rfl⟩]
         have f2 : vF (pushF s r) r 2 = vF s r 2 - 1 := by rw [pushF_F, if_pos ⟨rfl, rfl⟩]
         refine l_push (s := pushF s r) (Q := fun v t => v = none ∧ Is0 (pushS s r N c) t) hs hc hk2 (by omega) hd (by omega) (by omega) (by omega) (by omega) ⟨rfl, ?_⟩
         show _ = pushS s r N c
         unfold pushS
         rw [if_pos h4]; done)
      | (refine l_push hs hc hk (by omega) hd b0 (by omega) b2 (by omega) ⟨rfl, ?_⟩
         show _ = pushS s r N c
         unfold pushS
         rw [if_neg h4])
set_option maxHeartbeats 1000000 in
set_option maxRecDepth 4000 in
theorem c_pop {X : vX} {s : St} {r N : Nat} (hs : isShelf r N) {t c : Nat} {n : Int} (hc : isCamp c t) (hk : 0 < vF s r 2 → CampOk s (slI s r N (vF s r 2 - 1)) n) (hd : c + 3 ≤ r) (b0 : 0 ≤ vF s r 1) (b1 : vF s r 1 < 100000) (b2 : 0 ≤ vF s r 2) (b3 : vF s r 2 ≤ N) : OkI X 4 68 [.ref r, .ref c] s (Is1 (if 0 < vF s r 2 then 1 else 0) (if 0 < vF s r 2 then popS s r N c else s)) := by
  refine Ok.of (r := vm_m68) (ls := [some (.ref r), some (.ref c), none]) rfl (Nat.le_of_ble_eq_true rfl) rfl (fun d hd => ?_)
  obtain ⟨hy, ⟨fs, hf, hj⟩, hcs, hN1, hN8⟩ := id hs
  have hm : slI s r N (vF s r 2 - 1) = r + 2 + 3 * ((vF s r 1 + (vF s r 2 - 1)) % N).toNat := rfl
  have hl : ((vF s r 1 + (vF s r 2 - 1)) % N).toNat < N := by
    have := Int.emod_lt_of_pos (vF s r 1 + (vF s r 2 - 1)) (show 0 < (N : Int) by omega)
    have := Int.emod_nonneg (vF s r 1 + (vF s r 2 - 1)) (show (N : Int) ≠ 0 by omega)
    omega
  have hcR : isCamp (slI s r N (vF s r 2 - 1)) 5 := hcs _ hl
  have eSz : vF (cpC s c (slI s r N (vF s r 2 - 1))) r 2 = vF s r 2 := by
    rw [cpC_F, if_neg (by omega), if_neg (by omega)]
  refine Gs_aload_n p68_0 rfl rfl ?_
  refine Gs_getI p68_1 (by first | rfl | assumption | exact (show isTale _ from by assumption).1 | exact (show isCamp _ _ from by assumption).1 | exact (show isRow _ _ from by assumption).1) (by rfl) ?_
  refine Gs_if_le (tgt := 20) p68_4 (by rfl) (by first | assumption | exact ⟨by omega, by omega⟩ | (split <;> exact ⟨by omega, by omega⟩)) (fun h4 => ?_) (fun h4 => ?_)
  · refine Gs_null p68_20 ?_
    refine Gs_astN2 p68_21 (by first | rfl | assumption) ?_
    refine Gs_aload_n p68_22 rfl rfl ?_
    refine Gs_ifnonnullN (tgt := 28) p68_23 (by rfl) ?_
    refine Gs_iconst p68_26 ?_
    refine Gs_zret p68_27 rfl (Or.inl rfl) ⟨_, rfl, ?_⟩
    exact ⟨by rw [if_neg (by omega)], by rw [if_neg (by omega)]⟩
  · refine Gs_aload_n p68_7 rfl rfl ?_
    refine Gs_aload_n p68_8 rfl rfl ?_
    refine Gs_getI p68_9 (by first | rfl | assumption | exact (show isTale _ from by assumption).1 | exact (show isCamp _ _ from by assumption).1 | exact (show isRow _ _ from by assumption).1) (by rfl) ?_
    refine Gs_iconst p68_12 ?_
    refine Gs_isub p68_13 ?_
    refine Gs_callV1R p68_14 (by rfl) (by rfl) (by first | rfl | assumption | exact (show isTale _ from by assumption).1 | exact (show isCamp _ _ from by assumption).1 | exact (show isRow _ _ from by assumption).1) (Nat.le_of_ble_eq_true rfl) (by decide) (c_slotOf hs (by omega) (by omega)) (by omega) ?_
    refine Gs_goto (tgt := 21) p68_17 (by rfl) ?_
    refine Gs_ast2 p68_21 (by first | rfl | assumption) ?_
    refine Gs_aload_n p68_22 rfl rfl ?_
    refine Gs_ifnonnullR (tgt := 28) p68_23 (by rfl) ?_
    refine Gs_aload_n p68_28 rfl rfl ?_
    refine Gs_aload_n p68_29 rfl rfl ?_
    refine Gs_callV1W p68_30 (by rfl) (by rfl) hc.1 (Nat.le_of_ble_eq_true rfl) (by decide) (c_Cbecome hc hcR (hk (by omega)) (by omega) (by omega) (by omega) (by omega)) (by omega) ?_
    refine Gs_aload_n p68_33 rfl rfl ?_
    refine Gs_dup p68_34 rfl ?_
    refine Gs_getI p68_35 (by first | rfl | assumption | exact (show isTale _ from by assumption).1 | exact (show isCamp _ _ from by assumption).1 | exact (show isRow _ _ from by assumption).1) (by rfl) ?_
    rw [eSz]
    refine Gs_iconst p68_38 ?_
    refine Gs_isub p68_39 ?_
    refine Gs_putI p68_40 (by first | rfl | assumption | exact (show isTale _ from by assumption).1 | exact (show isCamp _ _ from by assumption).1 | exact (show isRow _ _ from by assumption).1) (by rfl) (by rfl) (by rfl) ?_
    refine Gs_iconst p68_43 ?_
    refine Gs_zret p68_44 rfl (by first | exact Or.inl rfl | exact Or.inr rfl | (split <;> first | exact Or.inl rfl | exact Or.inr rfl)) ⟨_, rfl, ?_⟩
    exact ⟨by rw [if_pos (by omega)], by rw [if_pos (by omega)]; rfl⟩

def cpS (s : St) (a : Nat) (i : Int) (b : Nat) (j n : Int) : St := (fun i' z' => if i' = b ∧ j ≤ z' ∧ z' < j + n then s.1 a (z' - j + i) else s.1 i' z', s.2)
theorem cpS_A (s : St) (a : Nat) (i : Int) (b : Nat) (j n : Int) (i' : Nat) (z' : Int) : vA (cpS s a i b j n) i' z' = if i' = b ∧ j ≤ z' ∧ z' < j + n then vA s a (z' - j + i) else vA s i' z' := rfl
theorem cpS_F (s : St) (a : Nat) (i : Int) (b : Nat) (j n : Int) (i' k : Nat) : vF (cpS s a i b j n) i' k = vF s i' k := rfl
theorem cpS_0 (s : St) (a : Nat) (i : Int) (b : Nat) (j : Int) : cpS s a i b j 0 = s := by
  refine Prod.ext ?_ rfl
  funext i' z
  show (if _ then _ else _) = _
  rw [if_neg (by omega)]
theorem cpS_s {s : St} {a : Nat} {i : Int} {b : Nat} {j k : Int} (hab : a ≠ b) (hk : 0 ≤ k) : sA (cpS s a i b j k) b (j + k) (vA (cpS s a i b j k) a (i + k)) = cpS s a i b j (k + 1) := by
  refine Prod.ext ?_ rfl
  funext i' z
  rw [cpS_A, if_neg (fun e => hab e.1)]
  show (if i' = b ∧ z = j + k then s.1 a (i + k) else if i' = b ∧ j ≤ z ∧ z < j + k then s.1 a (z - j + i) else s.1 i' z) = if i' = b ∧ j ≤ z ∧ z < j + (k + 1) then s.1 a (z - j + i) else s.1 i' z
  by_cases h1 : i' = b ∧ z = j + k
  · rw [if_pos h1, if_pos (by omega), show z - j + i = i + k by omega]
  · rw [if_neg h1]
    by_cases h2 : i' = b ∧ j ≤ z ∧ z < j + k
    · rw [if_pos h2, if_pos (by omega)]
    · rw [if_neg h2, if_neg (by omega)]
set_option maxHeartbeats 1000000 in
set_option maxRecDepth 4000 in
theorem c_copies {X : vX} {s : St} {a b na nb : Nat} {i j n : Int} (ha : isA a na) (hb : isA b nb) (hab : a ≠ b) (g0 : 0 ≤ i) (g1 : i + n ≤ na) (g2 : 0 ≤ j) (g3 : j + n ≤ nb) (g4 : 0 ≤ n) (g5 : na < 100000) (g6 : nb < 100000) : OkV X 0 130 [.ref a, .int (iI i), .ref b, .int (iI j), .int (iI n)] s (Is0 (cpS s a i b j n)) := by
  refine Ok.of (r := vm_m130) (ls := [some (.ref a), some (.int (iI i)), some (.ref b), some (.int (iI j)), some (.int (iI n)), none]) rfl (Nat.le_of_ble_eq_true rfl) rfl (fun d hd => ?_)
  unfold isA at ha hb
  refine Gs_iconst p130_0 ?_
  refine Gs_ist5 p130_1 (by first | rfl | assumption) ?_
  have e0 := cpS_0 s a i b j
  rw [show Gs X d 130 3 [some (.ref a), some (.int (iI i)), some (.ref b), some (.int (iI j)), some (.int (iI n)), some (.int (iI 0))] [] s = Gs X d 130 3 [some (.ref a), some (.int (iI i)), some (.ref b), some (.int (iI j)), some (.int (iI n)), some (.int (iI 0))] [] (cpS s a i b j 0) by rw [e0]]
  refine dn (n := n) (P := fun k => Gs X d 130 3 [some (.ref a), some (.int (iI i)), some (.ref b), some (.int (iI j)), some (.int (iI n)), some (.int (iI k))] [] (cpS s a i b j k) _) g4 (fun k hk hkn ih => ?_) ?_
  · show Gs X d 130 3 [some (.ref a), some (.int (iI i)), some (.ref b), some (.int (iI j)), some (.int (iI n)), some (.int (iI k))] [] (cpS s a i b j k) _
    refine Gs_iload p130_3 rfl rfl ?_
    refine Gs_iload p130_5 rfl rfl ?_
    refine Gs_icmp_ge (tgt := 28) p130_7 (by rfl) (by first | assumption | exact ⟨by omega, by omega⟩ | (split <;> exact ⟨by omega, by omega⟩)) (by first | assumption | exact ⟨by omega, by omega⟩ | (split <;> exact ⟨by omega, by omega⟩)) (fun hc7 => absurd ‹_› (by first | omega | assumption)) (fun hc7 => ?_)
    refine Gs_aload_n p130_10 rfl rfl ?_
    refine Gs_iload_n p130_11 rfl rfl ?_
    refine Gs_iload p130_12 rfl rfl ?_
    refine Gs_iadd p130_14 ?_
    refine Gs_aload_n p130_15 rfl rfl ?_
    refine Gs_iload_n p130_16 rfl rfl ?_
    refine Gs_iload p130_17 rfl rfl ?_
    refine Gs_iadd p130_19 ?_
    refine Gs_iald p130_20 ha (by omega) (by omega) (by omega) ?_
    refine Gs_iast p130_21 hb (by omega) (by omega) (by omega) ?_
    refine Gs_iinc5 (b55 := none) p130_22 (by first | rfl | assumption) ?_
    refine Gs_goto (tgt := 3) p130_25 (by rfl) ?_
    rw [cpS_s hab hk]
    exact ih
  · show Gs X d 130 3 [some (.ref a), some (.int (iI i)), some (.ref b), some (.int (iI j)), some (.int (iI n)), some (.int (iI (n)))] [] (cpS s a i b j (n)) _
    refine Gs_iload p130_3 rfl rfl ?_
    refine Gs_iload p130_5 rfl rfl ?_
    refine Gs_icmp_ge (tgt := 28) p130_7 (by rfl) (by first | assumption | exact ⟨by omega, by omega⟩ | (split <;> exact ⟨by omega, by omega⟩)) (by first | assumption | exact ⟨by omega, by omega⟩ | (split <;> exact ⟨by omega, by omega⟩)) (fun hc7 => ?_) (fun hc7 => absurd ‹_› (by first | omega | assumption))
    refine Gs_vret p130_28 rfl ⟨rfl, ?_⟩
    rfl

def shS (s : St) (n : Int) : St := (fun i' z' => if i' = 100 ∧ 0 ≤ z' ∧ z' < n then s.1 100 (z' + 33) else s.1 i' z', s.2)
theorem shS_A (s : St) (n : Int) (i' : Nat) (z' : Int) : vA (shS s n) i' z' = if i' = 100 ∧ 0 ≤ z' ∧ z' < n then vA s 100 (z' + 33) else vA s i' z' := rfl
theorem shS_0 (s : St) : shS s 0 = s := by
  refine Prod.ext ?_ rfl
  funext i' z
  show (if _ then _ else _) = _
  rw [if_neg (by omega)]
theorem shS_s {s : St} {k : Int} (hk : 0 ≤ k) : sA (shS s k) 100 k (vA (shS s k) 100 (k + 33)) = shS s (k + 1) := by
  refine Prod.ext ?_ rfl
  funext i' z
  rw [shS_A, if_neg (by omega)]
  show (if i' = 100 ∧ z = k then s.1 100 (k + 33) else if i' = 100 ∧ 0 ≤ z ∧ z < k then s.1 100 (z + 33) else s.1 i' z) = if i' = 100 ∧ 0 ≤ z ∧ z < k + 1 then s.1 100 (z + 33) else s.1 i' z
  by_cases h1 : i' = 100 ∧ z = k
  · rw [if_pos h1, if_pos (by omega), h1.2]
  · rw [if_neg h1]
    by_cases h2 : i' = 100 ∧ 0 ≤ z ∧ z < k
    · rw [if_pos h2, if_pos (by omega)]
    · rw [if_neg h2, if_neg (by omega)]
def remT (s : St) : St := sF (cpS s 98 0 100 (33 * vF s 95 5) 33) 95 5 (vF s 95 5 + 1)
def remF (s : St) : St := sF (shS s 231) 95 5 (vF s 95 5 - 1)
def remS (s : St) : St := if vF s 95 5 = 8 then remT (remF s) else remT s
theorem isA98 : isA 98 33 := rfl
theorem isA99 : isA 99 33 := rfl
theorem isA100 : isA 100 264 := rfl
theorem isA101 : isA 101 66 := rfl
set_option maxHeartbeats 1000000 in
theorem l_rem {X : vX} {s : St} {d : Nat} {v1 : Option Value} {Q : Option Value → St → Prop} (hd : 1 ≤ d) (b0 : 0 ≤ vF s 95 5) (b1 : vF s 95 5 ≤ 7) (hQ : Q none (remT s)) : Gs X d 165 49 [some (.ref 95), v1] [] s Q := by
  refine Gs_aload_n p165_49 rfl rfl ?_
  refine Gs_getR p165_50 (by first | rfl | assumption | exact (show isTale _ from by assumption).1 | exact (show isCamp _ _ from by assumption).1 | exact (show isRow _ _ from by assumption).1) (by rfl) ?_
  refine Gs_iconst p165_53 ?_
  refine Gs_aload_n p165_54 rfl rfl ?_
  refine Gs_getR p165_55 (by first | rfl | assumption | exact (show isTale _ from by assumption).1 | exact (show isCamp _ _ from by assumption).1 | exact (show isRow _ _ from by assumption).1) (by rfl) ?_
  refine Gs_bipush p165_58 (by decide) ?_
  refine Gs_aload_n p165_60 rfl rfl ?_
  refine Gs_getI p165_61 (by first | rfl | assumption | exact (show isTale _ from by assumption).1 | exact (show isCamp _ _ from by assumption).1 | exact (show isRow _ _ from by assumption).1) (by rfl) ?_
  refine Gs_imul p165_64 ?_
  refine Gs_bipush p165_65 (by decide) ?_
  refine Gs_callS5W p165_67 (by rfl) (Nat.le_of_ble_eq_true rfl) (by decide) (c_copies isA98 isA100 (by decide) (by omega) (by decide) (by omega) (by omega) (by omega) (by decide) (by decide)) (by omega) ?_
  refine Gs_aload_n p165_70 rfl rfl ?_
  refine Gs_dup p165_71 rfl ?_
  refine Gs_getI p165_72 (by first | rfl | assumption | exact (show isTale _ from by assumption).1 | exact (show isCamp _ _ from by assumption).1 | exact (show isRow _ _ from by assumption).1) (by rfl) ?_
  refine Gs_iconst p165_75 ?_
  refine Gs_iadd p165_76 ?_
  refine Gs_putI p165_77 (by first | rfl | assumption | exact (show isTale _ from by assumption).1 | exact (show isCamp _ _ from by assumption).1 | exact (show isRow _ _ from by assumption).1) (by rfl) (by rfl) (by rfl) ?_
  refine Gs_vret p165_80 rfl ?_
  exact hQ
set_option maxHeartbeats 1000000 in
/-- the reference remembers its camp -/
theorem c_remember {X : vX} {s : St} (b0 : 0 ≤ vF s 95 5) (b1 : vF s 95 5 ≤ 8) : OkV X 1 165 [.ref 95] s (Is0 (remS s)) := by
  refine Ok.of (r := vm_m165) (ls := [some (.ref 95), none]) rfl (Nat.le_of_ble_eq_true rfl) rfl (fun d hd => ?_)
  refine Gs_aload_n p165_0 rfl rfl ?_
  refine Gs_getI p165_1 (by first | rfl | assumption | exact (show isTale _ from by assumption).1 | exact (show isCamp _ _ from by assumption).1 | exact (show isRow _ _ from by assumption).1) (by rfl) ?_
  refine Gs_bipush p165_4 (by decide) ?_
  refine Gs_icmp_ne (tgt := 49) p165_6 (by rfl) (by first | assumption | exact ⟨by omega, by omega⟩ | (split <;> exact ⟨by omega, by omega⟩)) (by first | assumption | exact ⟨by omega, by omega⟩ | (split <;> exact ⟨by omega, by omega⟩)) (fun h6 => ?_) (fun h6 => ?_)
  · refine l_rem (by omega) b0 (by omega) ⟨rfl, ?_⟩
    show _ = remS s
    unfold remS
    rw [if_neg h6]
  · refine Gs_iconst p165_9 ?_
    refine Gs_ist1 p165_10 (by first | rfl | assumption) ?_
    rw [show Gs X d 165 11 [some (.ref 95), some (.int (iI 0))] [] s = Gs X d 165 11 [some (.ref 95), some (.int (iI 0))] [] (shS s 0) by rw [shS_0]]
    refine dn (n := 231) (P := fun k => Gs X d 165 11 [some (.ref 95), some (.int (iI k))] [] (shS s k) _) (by omega) (fun k hk hkn ih => ?_) ?_
    · show Gs X d 165 11 [some (.ref 95), some (.int (iI k))] [] (shS s k) _
      refine Gs_iload_n p165_11 rfl rfl ?_
      refine Gs_sipush p165_12 (by decide) ?_
      refine Gs_icmp_ge (tgt := 39) p165_15 (by rfl) (by first | assumption | exact ⟨by omega, by omega⟩ | (split <;> exact ⟨by omega, by omega⟩)) (by first | assumption | exact ⟨by omega, by omega⟩ | (split <;> exact ⟨by omega, by omega⟩)) (fun hc15 => absurd ‹_› (by first | omega | assumption)) (fun hc15 => ?_)
      refine Gs_aload_n p165_18 rfl rfl ?_
      refine Gs_getR p165_19 (by first | rfl | assumption | exact (show isTale _ from by assumption).1 | exact (show isCamp _ _ from by assumption).1 | exact (show isRow _ _ from by assumption).1) (by rfl) ?_
      refine Gs_iload_n p165_22 rfl rfl ?_
      refine Gs_aload_n p165_23 rfl rfl ?_
      refine Gs_getR p165_24 (by first | rfl | assumption | exact (show isTale _ from by assumption).1 | exact (show isCamp _ _ from by assumption).1 | exact (show isRow _ _ from by assumption).1) (by rfl) ?_
      refine Gs_iload_n p165_27 rfl rfl ?_
      refine Gs_bipush p165_28 (by decide) ?_
      refine Gs_iadd p165_30 ?_
      refine Gs_iald p165_31 (by first | rfl | assumption | exact (show isTale _ from by assumption).1 | exact (show isCamp _ _ from by assumption).1 | exact (show isRow _ _ from by assumption).1) (by omega) (by omega) (by omega) ?_
      refine Gs_iast p165_32 (by first | rfl | assumption | exact (show isTale _ from by assumption).1 | exact (show isCamp _ _ from by assumption).1 | exact (show isRow _ _ from by assumption).1) (by omega) (by omega) (by omega) ?_
      refine Gs_iinc1 (b51 := none) p165_33 (by first | rfl | assumption) ?_
      refine Gs_goto (tgt := 11) p165_36 (by rfl) ?_
      rw [shS_s hk]
      exact ih
    · show Gs X d 165 11 [some (.ref 95), some (.int (iI (231)))] [] (shS s (231)) _
      refine Gs_iload_n p165_11 rfl rfl ?_
      refine Gs_sipush p165_12 (by decide) ?_
      refine Gs_icmp_ge (tgt := 39) p165_15 (by rfl) (by first | assumption | exact ⟨by omega, by omega⟩ | (split <;> exact ⟨by omega, by omega⟩)) (by first | assumption | exact ⟨by omega, by omega⟩ | (split <;> exact ⟨by omega, by omega⟩)) (fun hc15 => ?_) (fun hc15 => absurd ‹_› (by first | omega | assumption))
      refine Gs_aload_n p165_39 rfl rfl ?_
      refine Gs_dup p165_40 rfl ?_
      refine Gs_getI p165_41 (by first | rfl | assumption | exact (show isTale _ from by assumption).1 | exact (show isCamp _ _ from by assumption).1 | exact (show isRow _ _ from by assumption).1) (by rfl) ?_
      refine Gs_iconst p165_44 ?_
      refine Gs_isub p165_45 ?_
      refine Gs_putI p165_46 (by first | rfl | assumption | exact (show isTale _ from by assumption).1 | exact (show isCamp _ _ from by assumption).1 | exact (show isRow _ _ from by assumption).1) (by rfl) (by rfl) (by rfl) ?_
      refine l_rem (s := remF s) (by omega) (by show 0 ≤ vF s 95 5 - 1; omega) (by show vF s 95 5 - 1 ≤ 7; omega) ⟨rfl, ?_⟩
      show _ = remS s
      unfold remS
      rw [if_pos (by omega)]