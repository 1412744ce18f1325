/-! pass -/
def passV (R : Int → Int) (n : Int) (V : Int → Int → Int) (h : Int) : Nat → Int → Int → Int
  | 0 => V
  | i + 1 => burnV (passV R n V h i) (R (h + i)) n
theorem passV_s {R : Int → Int} {n : Int} {V : Int → Int → Int} {h i : Int} (hi : 0 ≤ i) : passV R n V h (i + 1).toNat = burnV (passV R n V h i.toNat) (R (h + i)) n := by
  rw [show (i + 1).toNat = i.toNat + 1 by omega]
  show burnV _ (R (h + (i.toNat : Int))) n = _
  rw [show ((i.toNat : Nat) : Int) = i by omega]
theorem GoodV.pass {R : Int → Int} {n L K : Int} {V : Int → Int → Int} {h : Int} (g : GoodV V n L K) (hR : ∀ x, 0 ≤ R x) : ∀ i : Nat, GoodV (passV R n V h i) n L K := by
  intro i
  induction i with
  | zero => exact g
  | succ i ih => exact ih.burn (hR _)
def inV (V : Int → Int → Int) (k : Int) : Int := if 1 ≤ V k 0 then 1 else 0
theorem inV_b (V : Int → Int → Int) (k : Int) : 0 ≤ inV V k ∧ inV V k ≤ 1 := by unfold inV; split <;> omega
theorem MOpH.trans {s t u : St} {a : Nat} {n h h' : Int} {V W : Int → Int → Int} (p : MOpH s t a n V h) (g : MOpH t u a n W h') : MOpH s u a n W h' :=
  ⟨g.1, fun i z e => (g.2.1 i z e).trans (p.2.1 i z e), fun i k => (g.2.2.1 i k).trans (p.2.2.1 i k), g.2.2.2.1, fun k w a b c d => (g.2.2.2.2 k w a b c d).trans (p.2.2.2.2 k w a b c d)⟩
theorem COp.ins {s t : St} {c : Nat} {n hr : Int} {V : Int → Int → Int} (o : COp s t c n V hr) : sm (inS t c) n = sm (inV V) n := sm_cong (fun k b0 b1 => by
  unfold inS inV
  rw [o.at b0 b1 (by omega) (by omega)])
theorem MOpH.ins {s t : St} {a : Nat} {n hr : Int} {V : Int → Int → Int} (o : MOpH s t a n V hr) (h0 : 0 ≤ n) (hn : n ≤ 4) (hz : ∀ k, n ≤ k → k < 4 → vA s a k = 0) : sm (inM t a) 4 = sm (inV V) n := by
  rw [sm_0 (f := inM t a) h0 hn (fun k b0 b1 => ?_)]
  · refine sm_cong (fun k b0 b1 => ?_)
    unfold inM inV
    rw [Int.zero_add, ← mv0 (n := n) b0 b1, o.1]
    by_cases h : 1 ≤ V k 0
    · rw [if_pos h, if_pos (by omega)]
    · rw [if_neg h, if_neg (by omega)]
  · unfold inM
    have u := o.2.2.2.2 k 0 b0 b1 (by omega) (by omega)
    rw [mi_0] at u
    rw [Int.zero_add, u, hz k b0 b1, if_neg (by omega)]
theorem MC.of {t s : St} {a : Nat} {n L K hr : Int} {V : Int → Int → Int} (o : MOpH s t a n V hr) (g : GoodV V n L K) (h0 : 0 ≤ n) (hn : n ≤ 4) (hr0 : 0 ≤ hr) (hr1 : hr ≤ 100000) (hz : ∀ k, n ≤ k → k < 4 → vA s a k = 0) : MC t a n := by
  have l := lwA
  refine ⟨by rw [o.2.2.2.1]; exact hr0, by rw [o.2.2.2.1]; exact hr1, fun k b0 b1 => ?_, fun k b0 b1 => ?_⟩
  · by_cases hk : k < n
    · rw [← mv0 (n := n) b0 hk, o.1]
      have := (g k b0 hk).1 0 (by omega) (by omega)
      omega
    · have u := o.2.2.2.2 k 0 (by omega) b1 (by omega) (by omega)
      rw [mi_0] at u
      rw [u, hz k (by omega) b1]; omega
  · have q1 := (g k b0 b1).1 1 (by omega) (by omega)
    have q6 := (g k b0 b1).1 6 (by omega) (by omega)
    have q7 := (g k b0 b1).1 7 (by omega) (by omega)
    rw [← o.1] at q1 q6 q7
    rw [mv1 b0 b1] at q1
    rw [mv6 b0 b1] at q6
    rw [mv7 b0 b1] at q7
    refine ⟨by omega, by omega, by omega, fun w c0 c1 => ?_⟩
    have q2 := (g k b0 b1).1 (2 + w) (by omega) (by omega)
    rw [← o.1, mv2 b0 b1 c0 c1] at q2
    have l2 := lw2 c0 c1
    omega
set_option maxHeartbeats 1000000 in
set_option maxRecDepth 4000 in
theorem k_pass {X : vX} {s : St} {n v : Int} (hT : TaleOk s 5) (hC : CampOk s 14 n) (hp : 0 ≤ vF s 20 1 ∧ vF s 20 1 < 100000 ∧ 0 ≤ vF s 20 2 ∧ vF s 20 2 ≤ 8) (hh : vF s 14 2 < 50000) (v1 : 1 ≤ v) (v2 : v ≤ 24) : OkI X 5 101 [.ref 0, .int (iI v)] s (fun z t => z = sm (inV (passV (rnI s 5) n (cv s 14 n) (vF s 14 2) v.toNat)) n ∧ COp (P20 s) t 14 n (passV (rnI s 5) n (cv s 14 n) (vF s 14 2) v.toNat) (vF s 14 2 + v)) := by
  refine Ok.of (r := vm_m101) (ls := [some (.ref 0), some (.int (iI v)), none]) rfl (Nat.le_of_ble_eq_true rfl) rfl (fun d hd => ?_)
  have hn := hC.2.1
  refine Gs_iload_n p101_0 rfl rfl ?_
  refine Gs_iconst p101_1 ?_
  refine Gs_bipush p101_2 (by decide) ?_
  refine Gs_callS3I p101_4 (by rfl) (Nat.le_of_ble_eq_true rfl) (by decide) (c_within ⟨by omega, by omega⟩ ⟨by omega, by omega⟩ ⟨by omega, by omega⟩) (by omega) ?_
  refine Gs_ifb_ne (tgt := 12) p101_7 (by rfl) (fun h7 => ?_) (fun h7 => ?_)
  · refine Gs_aload_n p101_12 rfl rfl ?_
    refine Gs_getR p101_13 (by first | rfl | assumption | exact (show isTale _ from by assumption).1 | exact (show isCamp _ _ from by assumption).1 | exact (show isRow _ _ from by assumption).1) (by rfl) ?_
    refine Gs_aload_n p101_16 rfl rfl ?_
    refine Gs_getR p101_17 (by first | rfl | assumption | exact (show isTale _ from by assumption).1 | exact (show isCamp _ _ from by assumption).1 | exact (show isRow _ _ from by assumption).1) (by rfl) ?_
    refine Gs_callV1W p101_20 (by rfl) (by rfl) (by first | rfl | assumption | exact (show isTale _ from by assumption).1 | exact (show isCamp _ _ from by assumption).1 | exact (show isRow _ _ from by assumption).1) (Nat.le_of_ble_eq_true rfl) (by decide) (c_push shelf20 camp14 hC (by omega) hp.1 hp.2.1 hp.2.2.1 (by omega)) (by omega) ?_
    refine Gs_iconst p101_23 ?_
    refine Gs_ist2 p101_24 (by first | rfl | assumption) ?_
    refine dn (n := v) (P := fun i => ∀ u, COp (P20 s) u 14 n (passV (rnI s 5) n (cv s 14 n) (vF s 14 2) i.toNat) (vF s 14 2 + i) → Gs X d 101 25 [some (.ref 0), some (.int (iI v)), some (.int (iI i))] [] (u) (fun vv yy => ∃ z : Int, vv = some (.int (iI z)) ∧ (fun z t => z = sm (inV (passV (rnI s 5) n (cv s 14 n) (vF s 14 2) v.toNat)) n ∧ COp (P20 s) t 14 n (passV (rnI s 5) n (cv s 14 n) (vF s 14 2) v.toNat) (vF s 14 2 + v)) z yy)) (by omega) (fun i hi hin ih => ?_) ?_ (P20 s) (by have O := COp.refl hC.P; rw [cv_P, show vF (P20 s) 14 2 = vF s 14 2 from push20_F (by omega)] at O; rw [Int.add_zero]; exact O)
    · show ∀ u, COp (P20 s) u 14 n (passV (rnI s 5) n (cv s 14 n) (vF s 14 2) i.toNat) (vF s 14 2 + i) → Gs X d 101 25 [some (.ref 0), some (.int (iI v)), some (.int (iI i))] [] (u) _
      intro u o
      have eR : ∀ x, rnI u 5 x = rnI s 5 x := fun x => rnI_cong (o.F (by omega) (by omega)) (fun z => o.A (by omega) (by omega) z) x
      have hT' : TaleOk u 5 := hT.cong (o.F (by omega) (by omega)) (o.F (by omega) (by omega)) (o.F (by omega) (by omega)) (fun z => o.A (by omega) (by omega) z) (fun z => o.A (by omega) (by omega) z)
      refine Gs_iload_n p101_25 rfl rfl ?_
      refine Gs_iload_n p101_26 rfl rfl ?_
      refine Gs_icmp_ge (tgt := 43) p101_27 (by rfl) (by first | assumption | exact ⟨by omega, by omega⟩ | (split <;> exact ⟨by omega, by omega⟩)) (by first | assumption | exact ⟨by omega, by omega⟩ | (split <;> exact ⟨by omega, by omega⟩)) (fun hc27 => absurd ‹_› (by first | omega | assumption)) (fun hc27 => ?_)
      refine Gs_aload_n p101_30 rfl rfl ?_
      refine Gs_getR p101_31 (by first | rfl | assumption | exact (show isTale _ from by assumption).1 | exact (show isCamp _ _ from by assumption).1 | exact (show isRow _ _ from by assumption).1) (by rfl) ?_
      refine Gs_callV0v p101_34 (by rfl) (by rfl) (by rfl) (Nat.le_of_ble_eq_true rfl) (by decide) (c_burn camp14 o.2.2.2.2 tale5 hT' (by decide) (by rw [o.2.2.2.1]; omega)) (by omega) (fun s34 h34 => ?_)
      rw [eR, o.1, o.2.2.2.1] at h34
      have o2 := o.trans h34
      rw [← passV_s hi, Int.add_assoc] at o2
      refine Gs_iinc2 (b52 := none) p101_37 (by first | rfl | assumption) ?_
      refine Gs_goto (tgt := 25) p101_40 (by rfl) ?_
      exact ih _ o2
    · show ∀ u, COp (P20 s) u 14 n (passV (rnI s 5) n (cv s 14 n) (vF s 14 2) (v).toNat) (vF s 14 2 + (v)) → Gs X d 101 25 [some (.ref 0), some (.int (iI v)), some (.int (iI (v)))] [] (u) _
      intro u o
      refine Gs_iload_n p101_25 rfl rfl ?_
      refine Gs_iload_n p101_26 rfl rfl ?_
      refine Gs_icmp_ge (tgt := 43) p101_27 (by rfl) (by first | assumption | exact ⟨by omega, by omega⟩ | (split <;> exact ⟨by omega, by omega⟩)) (by first | assumption | exact ⟨by omega, by omega⟩ | (split <;> exact ⟨by omega, by omega⟩)) (fun hc27 => ?_) (fun hc27 => absurd ‹_› (by first | omega | assumption))
      refine Gs_aload_n p101_43 rfl rfl ?_
      refine Gs_getR p101_44 (by first | rfl | assumption | exact (show isTale _ from by assumption).1 | exact (show isCamp _ _ from by assumption).1 | exact (show isRow _ _ from by assumption).1) (by rfl) ?_
      refine Gs_callV0I p101_47 (by rfl) (by rfl) (by first | rfl | assumption | exact (show isTale _ from by assumption).1 | exact (show isCamp _ _ from by assumption).1 | exact (show isRow _ _ from by assumption).1) (Nat.le_of_ble_eq_true rfl) (by decide) (c_firesIn camp14 o.2.2.2.2) (by omega) ?_
      refine Gs_iret p101_50 rfl ⟨_, rfl, ?_⟩
      exact ⟨o.ins, o⟩
  · refine Gs_iconst p101_10 ?_
    refine Gs_iret p101_11 rfl ⟨_, rfl, ?_⟩
    exfalso; omega

set_option maxHeartbeats 1000000 in
set_option maxRecDepth 4000 in
theorem k_pass_no {X : vX} {s : St} {v : Int} (hv : rg v) (hno : ¬ (1 ≤ v ∧ v ≤ 24)) : OkI X 5 101 [.ref 0, .int (iI v)] s (Is1 (-1) s) := by
  refine Ok.of (r := vm_m101) (ls := [some (.ref 0), some (.int (iI v)), none]) rfl (Nat.le_of_ble_eq_true rfl) rfl (fun d hd => ?_)
  refine Gs_iload_n p101_0 rfl rfl ?_
  refine Gs_iconst p101_1 ?_
  refine Gs_bipush p101_2 (by decide) ?_
  refine Gs_callS3I p101_4 (by rfl) (Nat.le_of_ble_eq_true rfl) (by decide) (c_within hv ⟨by omega, by omega⟩ ⟨by omega, by omega⟩) (by omega) ?_
  refine Gs_ifb_ne (tgt := 12) p101_7 (by rfl) (fun h7 => ?_) (fun h7 => ?_)
  · exfalso; omega
  · refine Gs_iconst p101_10 ?_
    refine Gs_iret p101_11 rfl ⟨_, rfl, ?_⟩
    exact ⟨rfl, rfl⟩

set_option maxHeartbeats 1000000 in
set_option maxRecDepth 4000 in
theorem m_pass {X : vX} {s : St} {v L K : Int} (hT : MT s) (hm : MC s 98 (vA s 96 2)) (hu : 0 ≤ vF s 95 5 ∧ vF s 95 5 ≤ 8) (g : GoodV (mv s 98 0 (vA s 96 2)) (vA s 96 2) L K) (hz : ∀ k, vA s 96 2 ≤ k → k < 4 → vA s 98 k = 0) (hh : vA s 98 32 < 50000) (v1 : 1 ≤ v) (v2 : v ≤ 24) : OkI X 4 167 [.ref 95, .int (iI v)] s (fun z u => z = sm (inV (passV (rnM s) (vA s 96 2) (mv s 98 0 (vA s 96 2)) (vA s 98 32) v.toNat)) (vA s 96 2) ∧ MOpH (remS s) u 98 (vA s 96 2) (passV (rnM s) (vA s 96 2) (mv s 98 0 (vA s 96 2)) (vA s 98 32) v.toNat) (vA s 98 32 + v)) := by
  refine Ok.of (r := vm_m167) (ls := [some (.ref 95), some (.int (iI v)), none]) rfl (Nat.le_of_ble_eq_true rfl) rfl (fun d hd => ?_)
  obtain ⟨a1x, a2, a3, a4, a5, a6, a7, a8⟩ := id hT
  obtain ⟨m1, m2, m3, m4⟩ := id hm
  have e98 : ∀ z, vA (remS s) 98 z = vA s 98 z := fun z => rem_A (by omega) z
  have e96 : ∀ z, vA (remS s) 96 z = vA s 96 z := fun z => rem_A (by omega) z
  have gp := fun i => g.pass (R := rnM s) (h := vA s 98 32) (fun x => (rnM_b hT x).1) i
  have hzr : ∀ k, vA s 96 2 ≤ k → k < 4 → vA (remS s) 98 k = 0 := fun k c0 c1 => by rw [e98]; exact hz k c0 c1
  refine Gs_iload_n p167_0 rfl rfl ?_
  refine Gs_i2l p167_1 (by first | assumption | exact ⟨by omega, by omega⟩ | (split <;> exact ⟨by omega, by omega⟩)) ?_
  refine Gs_lconst (z := 1) p167_2 (by decide) ?_
  refine Gs_ldc2 (z := (24)) p167_3 (by decide) ?_
  refine Gs_callS3I p167_6 (by rfl) (Nat.le_of_ble_eq_true rfl) (by decide) (c_in ⟨by omega, by omega⟩ ⟨by omega, by omega⟩ ⟨by omega, by omega⟩) (by omega) ?_
  refine Gs_ifb_ne (tgt := 14) p167_9 (by rfl) (fun h9 => ?_) (fun h9 => ?_)
  · refine Gs_aload_n p167_14 rfl rfl ?_
    refine Gs_callV0W p167_15 (by rfl) (by rfl) (by first | rfl | assumption | exact (show isTale _ from by assumption).1 | exact (show isCamp _ _ from by assumption).1 | exact (show isRow _ _ from by assumption).1) (Nat.le_of_ble_eq_true rfl) (by decide) (c_remember hu.1 hu.2) (by omega) ?_
    refine Gs_iconst p167_18 ?_
    refine Gs_ist2 p167_19 (by first | rfl | assumption) ?_
    refine dn (n := v) (P := fun i => ∀ u, MOpH (remS s) u 98 (vA s 96 2) (passV (rnM s) (vA s 96 2) (mv s 98 0 (vA s 96 2)) (vA s 98 32) i.toNat) (vA s 98 32 + i) → Gs X d 167 20 [some (.ref 95), some (.int (iI v)), some (.int (iI i))] [] (u) (fun vv yy => ∃ z : Int, vv = some (.int (iI z)) ∧ (fun z u => z = sm (inV (passV (rnM s) (vA s 96 2) (mv s 98 0 (vA s 96 2)) (vA s 98 32) v.toNat)) (vA s 96 2) ∧ MOpH (remS s) u 98 (vA s 96 2) (passV (rnM s) (vA s 96 2) (mv s 98 0 (vA s 96 2)) (vA s 98 32) v.toNat) (vA s 98 32 + v)) z yy)) (by omega) (fun i hi hin ih => ?_) ?_ (remS s) (by have O := (MOp.refl (remS s) 98 (vA s 96 2)).h; rw [mv_rem, e98] at O; rw [Int.add_zero]; exact O)
    · show ∀ u, MOpH (remS s) u 98 (vA s 96 2) (passV (rnM s) (vA s 96 2) (mv s 98 0 (vA s 96 2)) (vA s 98 32) i.toNat) (vA s 98 32 + i) → Gs X d 167 20 [some (.ref 95), some (.int (iI v)), some (.int (iI i))] [] (u) _
      intro u o
      have f96 : ∀ z, vA u 96 z = vA s 96 z := fun z => (o.2.1 96 z (by decide)).trans (e96 z)
      have mcu : MC u 98 (vA s 96 2) := MC.of o (gp i.toNat) (by omega) (by omega) (by omega) (by omega) hzr
      refine Gs_iload_n p167_20 rfl rfl ?_
      refine Gs_iload_n p167_21 rfl rfl ?_
      refine Gs_icmp_ge (tgt := 39) p167_22 (by rfl) (by first | assumption | exact ⟨by omega, by omega⟩ | (split <;> exact ⟨by omega, by omega⟩)) (by first | assumption | exact ⟨by omega, by omega⟩ | (split <;> exact ⟨by omega, by omega⟩)) (fun hc22 => absurd ‹_› (by first | omega | assumption)) (fun hc22 => ?_)
      refine Gs_aload_n p167_25 rfl rfl ?_
      refine Gs_aload_n p167_26 rfl rfl ?_
      refine Gs_getR p167_27 (by first | rfl | assumption | exact (show isTale _ from by assumption).1 | exact (show isCamp _ _ from by assumption).1 | exact (show isRow _ _ from by assumption).1) (by rfl) ?_
      refine Gs_callV1v p167_30 (by rfl) (by rfl) (by rfl) (Nat.le_of_ble_eq_true rfl) (by decide) (c_hourGoes isA98 (hT.cong f96) (by rw [f96]; exact mcu) (by decide) (by rw [o.2.2.2.1]; omega)) (by omega) (fun s30 h30 => ?_)
      rw [f96, rnM_cong f96, o.1, o.2.2.2.1] at h30
      have o2 := o.trans h30
      rw [← passV_s hi, Int.add_assoc] at o2
      refine Gs_iinc2 (b52 := none) p167_33 (by first | rfl | assumption) ?_
      refine Gs_goto (tgt := 20) p167_36 (by rfl) ?_
      exact ih _ o2
    · show ∀ u, MOpH (remS s) u 98 (vA s 96 2) (passV (rnM s) (vA s 96 2) (mv s 98 0 (vA s 96 2)) (vA s 98 32) (v).toNat) (vA s 98 32 + (v)) → Gs X d 167 20 [some (.ref 95), some (.int (iI v)), some (.int (iI (v)))] [] (u) _
      intro u o
      have mcu : MC u 98 (vA s 96 2) := MC.of o (gp v.toNat) (by omega) (by omega) (by omega) (by omega) hzr
      refine Gs_iload_n p167_20 rfl rfl ?_
      refine Gs_iload_n p167_21 rfl rfl ?_
      refine Gs_icmp_ge (tgt := 39) p167_22 (by rfl) (by first | assumption | exact ⟨by omega, by omega⟩ | (split <;> exact ⟨by omega, by omega⟩)) (by first | assumption | exact ⟨by omega, by omega⟩ | (split <;> exact ⟨by omega, by omega⟩)) (fun hc22 => ?_) (fun hc22 => absurd ‹_› (by first | omega | assumption))
      refine Gs_aload_n p167_39 rfl rfl ?_
      refine Gs_aload_n p167_40 rfl rfl ?_
      refine Gs_getR p167_41 (by first | rfl | assumption | exact (show isTale _ from by assumption).1 | exact (show isCamp _ _ from by assumption).1 | exact (show isRow _ _ from by assumption).1) (by rfl) ?_
      refine Gs_callV1I p167_44 (by rfl) (by rfl) (by first | rfl | assumption | exact (show isTale _ from by assumption).1 | exact (show isCamp _ _ from by assumption).1 | exact (show isRow _ _ from by assumption).1) (Nat.le_of_ble_eq_true rfl) (by decide) (c_insOf isA98 mcu) (by omega) ?_
      refine Gs_iret p167_47 rfl ⟨_, rfl, ?_⟩
      exact ⟨o.ins (by omega) (by omega) hzr, o⟩
  · refine Gs_iconst p167_12 ?_
    refine Gs_iret p167_13 rfl ⟨_, rfl, ?_⟩
    exfalso; omega

set_option maxHeartbeats 1000000 in
set_option maxRecDepth 4000 in
theorem m_pass_no {X : vX} {s : St} {v : Int} (hv : rg v) (hno : ¬ (1 ≤ v ∧ v ≤ 24)) : OkI X 4 167 [.ref 95, .int (iI v)] s (Is1 (-1) s) := by
  refine Ok.of (r := vm_m167) (ls := [some (.ref 95), some (.int (iI v)), none]) rfl (Nat.le_of_ble_eq_true rfl) rfl (fun d hd => ?_)
  refine Gs_iload_n p167_0 rfl rfl ?_
  refine Gs_i2l p167_1 (by first | assumption | exact ⟨by omega, by omega⟩ | (split <;> exact ⟨by omega, by omega⟩)) ?_
  refine Gs_lconst (z := 1) p167_2 (by decide) ?_
  refine Gs_ldc2 (z := (24)) p167_3 (by decide) ?_
  refine Gs_callS3I p167_6 (by rfl) (Nat.le_of_ble_eq_true rfl) (by decide) (c_in (rg_L hv) ⟨by omega, by omega⟩ ⟨by omega, by omega⟩) (by omega) ?_
  refine Gs_ifb_ne (tgt := 14) p167_9 (by rfl) (fun h9 => ?_) (fun h9 => ?_)
  · exfalso; omega
  · refine Gs_iconst p167_12 ?_
    refine Gs_iret p167_13 rfl ⟨_, rfl, ?_⟩
    exact ⟨rfl, rfl⟩

theorem T_pass {X : vX} {K : Int} {s : St} (hR : Rel K s) (hK : K < 512) {x1 : Int} (g1 : rg x1) : Both X K s 101 167 [.int (iI x1)] := by
  obtain ⟨h0, h1, h2, h3, h4, h5, h6⟩ := id hR
  obtain ⟨p1, p2, p3, p4, p5⟩ := hR.ok20 hK
  have hMT := hR.MT
  by_cases c : 1 ≤ x1 ∧ x1 ≤ 24
  · have hn := h4.1.2.1
    have hn0 := h4.1.1
    have hh := h4.1.2.2.2.1
    have hh2 := h4.2.2.1
    have gg := (h4.good.pass (R := rnI s 5) (h := vF s 14 2) (fun x => (rnI_b h3.1 x).1) x1.toNat).up (show K ≤ K + 1 by omega)
    refine Both.pushed (D := 5) (D' := 4) hR hK (k_pass h3.1 h4.1 ⟨p1, p2, p3, p4⟩ (by omega) c.1 c.2) (fun t o => ?_) ?_ gg (by omega) (by omega) (by decide) (by decide)
    · obtain ⟨q1, q2, q3, q4, q5, q6, q7, q8, q9, q10⟩ := o.ref hR
      have eR : rnM t = rnI s 5 := funext q9
      have M := m_pass (X := X) (v := x1) (L := vF s 5 4) (K := K) q1 q2 ⟨by omega, by omega⟩ (by rw [q3, q6]; exact h4.good) (fun k c0 c1 => by rw [q8]; have := (h4.2.2.2.2.2 k (by omega) c1).1; rw [Int.zero_add] at this; exact this) (by omega) c.1 c.2
      rw [q3, q6, q7, eR] at M
      exact M
    · have b := sm_b (f := inV (passV (rnI s 5) (vA s 96 2) (cv s 14 (vA s 96 2)) (vF s 14 2) x1.toNat)) (a := 0) (b := 1) hn0 (fun k _ _ => inV_b _ k)
      exact ⟨by omega, by omega⟩
  · exact Both.q hR (k_pass_no g1 c) (m_pass_no g1 c) (by decide) (by decide) rfl ⟨by omega, by omega⟩ (Kept.rfl' s)