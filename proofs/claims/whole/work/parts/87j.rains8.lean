/-! rains: the reference, the question -/
theorem shp {n : Int} {PW : Nat} (h0 : 0 ≤ n) (h1 : n ≤ 8) (e : 2 ^ n.toNat = PW) : iI 1 <<< (iI n &&& 31) = iI ((PW : Nat) : Int) := by
  have h := sh_pow n.toNat (by omega)
  rw [show ((n.toNat : Nat) : Int) = n by omega, e] at h
  exact h
theorem bq_dv {i j : Int} (i0 : 0 ≤ i) (i1 : i < 256) (j0 : 0 ≤ j) (j1 : j < 8) : bq (iI i) j.toNat = true ↔ i.toNat / 2 ^ j.toNat % 2 = 1 := by
  have h := bq_bit i.toNat (by omega) j.toNat (by omega)
  rw [show ((i.toNat : Nat) : Int) = i by omega] at h
  rw [h]
  exact decide_eq_true_iff
theorem gW_on {st : Bool → Int → Int → Int} {x like cur n j k G0 : Int} {m : Nat} (j0 : 0 ≤ j) (jn : j < n) (e : like * gW st x (n - j).toNat (m / 2 ^ j.toNat) cur j = G0) (hb : m / 2 ^ j.toNat % 2 = 1) (hk : st true cur j = k) : like * x * gW st x (n - (j + 1)).toNat (m / 2 ^ (j + 1).toNat) k (j + 1) = G0 := by
  subst hk
  rw [show (n - j).toNat = (n - (j + 1)).toNat + 1 by omega, gW_hour, if_pos hb, if_pos hb] at e
  rw [show (j + 1).toNat = j.toNat + 1 by omega, Nat.pow_succ, ← Nat.div_div_eq_div_mul]
  exact e
theorem gW_off {st : Bool → Int → Int → Int} {x like cur n j k G0 : Int} {m : Nat} (j0 : 0 ≤ j) (jn : j < n) (e : like * gW st x (n - j).toNat (m / 2 ^ j.toNat) cur j = G0) (hb : ¬ m / 2 ^ j.toNat % 2 = 1) (hk : st false cur j = k) : like * (10 - x) * gW st x (n - (j + 1)).toNat (m / 2 ^ (j + 1).toNat) k (j + 1) = G0 := by
  subst hk
  rw [show (n - j).toNat = (n - (j + 1)).toNat + 1 by omega, gW_hour, if_neg hb, if_neg hb] at e
  rw [show (j + 1).toNat = j.toNat + 1 by omega, Nat.pow_succ, ← Nat.div_div_eq_div_mul]
  exact e
theorem stR_z {last : Int} {R : Int → Int} {b : Bool} {c h : Int} (hc : c = 0) : stR last R b c h = 0 := by unfold stR; rw [if_pos hc]
theorem stR_g {last : Int} {R : Int → Int} {c h : Int} (hc : ¬ c = 0) : stR last R false c h = burntI c last (R h + 0) := by rw [Int.add_zero]; exact stR_f hc
section RAINS13
variable {X : vX} {d mid pc : Nat} {ls t : vm_L} {st : List Value} {s : St} {Q : Option Value → St → Prop} {r : vm_M} {a1 a2 a3 ln : Nat} {a b : Int}
theorem Gs_ist13 {b0 b1 b2 b3 b4 b5 b6 b7 b8 b9 b10 b11 b12 b13 : Option Value} {x : Int32} (hp : vm_P mid pc = some (r, (pc, .istore 13, ln, a1, a2, a3))) (h0 : vm_nl b12 = b12) (k : Gs X d mid (pc + 2) (b0 :: b1 :: b2 :: b3 :: b4 :: b5 :: b6 :: b7 :: b8 :: b9 :: b10 :: b11 :: b12 :: some (.int x) :: t) st s Q) : Gs X d mid pc (b0 :: b1 :: b2 :: b3 :: b4 :: b5 :: b6 :: b7 :: b8 :: b9 :: b10 :: b11 :: b12 :: b13 :: t) (.int x :: st) s Q :=
  Gs_step (ls' := b0 :: b1 :: b2 :: b3 :: b4 :: b5 :: b6 :: b7 :: b8 :: b9 :: b10 :: b11 :: b12 :: some (.int x) :: t) hp rfl rfl (by show (if 13 < (b0 :: b1 :: b2 :: b3 :: b4 :: b5 :: b6 :: b7 :: b8 :: b9 :: b10 :: b11 :: b12 :: b13 :: t).length then some (pc + 2, vm_st1 (b0 :: b1 :: b2 :: b3 :: b4 :: b5 :: b6 :: b7 :: b8 :: b9 :: b10 :: b11 :: b12 :: b13 :: t) 13 (.int x), st, conc X s) else none) = _; rw [if_pos (by simp only [List.length_cons]; omega)]; show some (pc + 2, (b0 :: b1 :: b2 :: b3 :: b4 :: b5 :: b6 :: b7 :: b8 :: b9 :: b10 :: b11 :: vm_nl b12 :: some (.int x) :: t), st, conc X s) = _; rw [h0]) k
theorem Gs_iinc13 {b0 b1 b2 b3 b4 b5 b6 b7 b8 b9 b10 b11 b12 b63 : Option Value} {n : Int} (hp : vm_P mid pc = some (r, (pc, .iinc 13 n, ln, a1, a2, a3))) (h0 : vm_nl b12 = b12) (k : Gs X d mid (pc + 3) (b0 :: b1 :: b2 :: b3 :: b4 :: b5 :: b6 :: b7 :: b8 :: b9 :: b10 :: b11 :: b12 :: some (.int (iI (a + n))) :: t) st s Q) : Gs X d mid pc (b0 :: b1 :: b2 :: b3 :: b4 :: b5 :: b6 :: b7 :: b8 :: b9 :: b10 :: b11 :: b12 :: some (.int (iI a)) :: t) st s Q :=
  Gs_step (ls' := b0 :: b1 :: b2 :: b3 :: b4 :: b5 :: b6 :: b7 :: b8 :: b9 :: b10 :: b11 :: b12 :: some (.int (iI (a + n))) :: t) hp rfl rfl (by show vm_iinc pc 13 n (b0 :: b1 :: b2 :: b3 :: b4 :: b5 :: b6 :: b7 :: b8 :: b9 :: b10 :: b11 :: b12 :: some (.int (iI a)) :: t) st (conc X s) = _; unfold vm_iinc; rw [show vm_ld (b0 :: b1 :: b2 :: b3 :: b4 :: b5 :: b6 :: b7 :: b8 :: b9 :: b10 :: b11 :: b12 :: some (.int (iI a)) :: t) 13 = some (.int (iI a)) from rfl]; dsimp only; rw [if_pos (by simp only [List.length_cons]; omega)]; show some (pc + 3, (b0 :: b1 :: b2 :: b3 :: b4 :: b5 :: b6 :: b7 :: b8 :: b9 :: b10 :: b11 :: vm_nl b12 :: some (.int (iI a + Int32.ofInt n)) :: t), st, conc X s) = _; rw [show iI a + Int32.ofInt n = iI (a + n) from iI_add a n]; rw [h0]) k
end RAINS13
set_option maxHeartbeats 4000000 in
set_option maxRecDepth 4000 in
theorem m_rains {X : vX} {s : St} {c n x part : Int} (hT : MT s) (hm : MC s 98 (vA s 96 2)) (c0 : 0 ≤ c) (c1 : c < vA s 96 2) (n0 : 0 ≤ n) (n1 : n ≤ 8) (x0 : 0 ≤ x) (x1 : x ≤ 10) (p0 : 0 ≤ part) (p1 : part ≤ 1) : OkI X 2 195 [.ref 95, .int (iI c), .int (iI n), .int (iI x), .int (iI part)] s (Is1 (raL part (FW (stR (vA s 98 (24 + c)) (fun e => rnM s (vA s 98 32 + e))) x n.toNat (vA s 98 c) 0).toNat ((10 : Int) ^ n.toNat).toNat) s) := by
  refine Ok.of (r := vm_m195) (ls := [some (.ref 95), some (.int (iI c)), some (.int (iI n)), some (.int (iI x)), some (.int (iI part)), none, none, none, none, none, none, none, none, none]) rfl (Nat.le_of_ble_eq_true rfl) rfl (fun d hd => ?_)
  obtain ⟨m1, m2, m3, m4⟩ := id hm
  have n4 := hT.2.2.2.2.2.1
  have hot := m3 c c0 (by omega)
  have gl : rg (vA s 98 (24 + c)) := by have := (m4 c c0 c1).2.1; exact ⟨by omega, by omega⟩
  have fb := FW_b (stR (vA s 98 (24 + c)) (fun e => rnM s (vA s 98 32 + e))) x0 x1 n.toNat (vA s 98 c) 0
  have tb := ten8 (n := n.toNat) (by omega)
  have pb := pow2_8 (n := n.toNat) (by omega)
  obtain ⟨PW, hP⟩ : ∃ PW : Nat, 2 ^ n.toNat = PW := ⟨_, rfl⟩
  rw [hP] at pb
  obtain ⟨B, hB⟩ : ∃ B : Nat, (10 : Int) ^ n.toNat = B := ⟨((10 : Int) ^ n.toNat).toNat, (Int.toNat_of_nonneg (by omega)).symm⟩
  obtain ⟨A, hA⟩ : ∃ A : Nat, (FW (stR (vA s 98 (24 + c)) (fun e => rnM s (vA s 98 32 + e))) x n.toNat (vA s 98 c) 0) = A := ⟨((FW (stR (vA s 98 (24 + c)) (fun e => rnM s (vA s 98 32 + e))) x n.toNat (vA s 98 c) 0)).toNat, (Int.toNat_of_nonneg fb.1).symm⟩
  obtain ⟨G, hG⟩ : ∃ G : Nat → Int, G = fun m => gW (stR (vA s 98 (24 + c)) (fun e => rnM s (vA s 98 32 + e))) x n.toNat m (vA s 98 c) 0 := ⟨_, rfl⟩
  have hS : sN G PW = (FW (stR (vA s 98 (24 + c)) (fun e => rnM s (vA s 98 32 + e))) x n.toNat (vA s 98 c) 0) := by rw [hG, ← hP]; exact gW_sum _ _ _ _ _
  refine Gs_aload_n p195_0 rfl rfl ?_
  refine Gs_iload_n p195_1 rfl rfl ?_
  refine Gs_callV1I p195_2 (by rfl) (by rfl) (by first | rfl | assumption | exact (show isTale _ from by assumption).1 | exact (show isCamp _ _ from by assumption).1 | exact (show isRow _ _ from by assumption).1) (Nat.le_of_ble_eq_true rfl) (by decide) (c_misCompany hT ⟨by omega, by omega⟩) (by omega) ?_
  refine Gs_ifb_eq (tgt := 43) p195_5 (by rfl) (fun h5 => ?_) (fun h5 => ?_)
  · exfalso; omega
  · refine Gs_iload_n p195_8 rfl rfl ?_
    refine Gs_i2l p195_9 (by first | assumption | exact ⟨by omega, by omega⟩ | (split <;> exact ⟨by omega, by omega⟩)) ?_
    refine Gs_lconst (z := 0) p195_10 (by decide) ?_
    refine Gs_ldc2 (z := (8)) p195_11 (by decide) ?_
    refine Gs_callS3I p195_14 (by rfl) (Nat.le_of_ble_eq_true rfl) (by decide) (c_in ⟨by omega, by omega⟩ ⟨by omega, by omega⟩ ⟨by omega, by omega⟩) (by omega) ?_
    refine Gs_ifb_eq (tgt := 43) p195_17 (by rfl) (fun h17 => ?_) (fun h17 => ?_)
    · exfalso; omega
    · refine Gs_iload_n p195_20 rfl rfl ?_
      refine Gs_i2l p195_21 (by first | assumption | exact ⟨by omega, by omega⟩ | (split <;> exact ⟨by omega, by omega⟩)) ?_
      refine Gs_lconst (z := 0) p195_22 (by decide) ?_
      refine Gs_ldc2 (z := (10)) p195_23 (by decide) ?_
      refine Gs_callS3I p195_26 (by rfl) (Nat.le_of_ble_eq_true rfl) (by decide) (c_in ⟨by omega, by omega⟩ ⟨by omega, by omega⟩ ⟨by omega, by omega⟩) (by omega) ?_
      refine Gs_ifb_eq (tgt := 43) p195_29 (by rfl) (fun h29 => ?_) (fun h29 => ?_)
      · exfalso; omega
      · refine Gs_iload p195_32 rfl rfl ?_
        refine Gs_i2l p195_34 (by first | assumption | exact ⟨by omega, by omega⟩ | (split <;> exact ⟨by omega, by omega⟩)) ?_
        refine Gs_lconst (z := 0) p195_35 (by decide) ?_
        refine Gs_lconst (z := 1) p195_36 (by decide) ?_
        refine Gs_callS3I p195_37 (by rfl) (Nat.le_of_ble_eq_true rfl) (by decide) (c_in ⟨by omega, by omega⟩ ⟨by omega, by omega⟩ ⟨by omega, by omega⟩) (by omega) ?_
        refine Gs_ifb_ne (tgt := 45) p195_40 (by rfl) (fun h40 => ?_) (fun h40 => ?_)
        · refine Gs_lconst (z := 0) p195_45 (by decide) ?_
          refine Gs_lst5 p195_46 (by first | rfl | assumption) ?_
          refine Gs_lconst (z := 1) p195_48 (by decide) ?_
          refine Gs_lst7 p195_49 (by first | rfl | assumption) ?_
          refine Gs_iconst p195_51 ?_
          refine Gs_ist9 p195_52 (by first | rfl | assumption) ?_
          refine dn (n := n) (P := fun i => Gs X d 195 54 [some (.ref 95), some (.int (iI c)), some (.int (iI n)), some (.int (iI x)), some (.int (iI part)), some (.long (iL 0)), none, some (.long (iL ((10 : Int) ^ i.toNat))), none, some (.int (iI i)), none, none, none, none] [] (s) (fun vv yy => ∃ zz : Int, vv = some (.int (iI zz)) ∧ (Is1 (raL part (FW (stR (vA s 98 (24 + c)) (fun e => rnM s (vA s 98 32 + e))) x n.toNat (vA s 98 c) 0).toNat ((10 : Int) ^ n.toNat).toNat) s) zz yy)) (by omega) (fun i hi hin ih => ?_) ?_
          · show Gs X d 195 54 [some (.ref 95), some (.int (iI c)), some (.int (iI n)), some (.int (iI x)), some (.int (iI part)), some (.long (iL 0)), none, some (.long (iL ((10 : Int) ^ i.toNat))), none, some (.int (iI i)), none, none, none, none] [] (s) _
            refine Gs_iload p195_54 rfl rfl ?_
            refine Gs_iload_n p195_56 rfl rfl ?_
            refine Gs_icmp_ge (tgt := 74) p195_57 (by rfl) (by first | assumption | exact ⟨by omega, by omega⟩ | (split <;> exact ⟨by omega, by omega⟩)) (by first | assumption | exact ⟨by omega, by omega⟩ | (split <;> exact ⟨by omega, by omega⟩)) (fun hc57 => absurd ‹_› (by first | omega | assumption)) (fun hc57 => ?_)
            refine Gs_lload p195_60 rfl rfl ?_
            refine Gs_ldc2 (z := (10)) p195_62 (by decide) ?_
            refine Gs_lmul p195_65 ?_
            rw [show (10 : Int) ^ i.toNat * 10 = (10 : Int) ^ (i + 1).toNat by rw [show (i + 1).toNat = i.toNat + 1 by omega, Int.pow_succ]]
            refine Gs_lst7 p195_66 (by first | rfl | assumption) ?_
            refine Gs_iinc9 (b59 := none) p195_68 (by first | rfl | assumption) ?_
            refine Gs_goto (tgt := 54) p195_71 (by rfl) ?_
            exact ih
          · show Gs X d 195 54 [some (.ref 95), some (.int (iI c)), some (.int (iI n)), some (.int (iI x)), some (.int (iI part)), some (.long (iL 0)), none, some (.long (iL ((10 : Int) ^ (n).toNat))), none, some (.int (iI (n))), none, none, none, none] [] (s) _
            refine Gs_iload p195_54 rfl rfl ?_
            refine Gs_iload_n p195_56 rfl rfl ?_
            refine Gs_icmp_ge (tgt := 74) p195_57 (by rfl) (by first | assumption | exact ⟨by omega, by omega⟩ | (split <;> exact ⟨by omega, by omega⟩)) (by first | assumption | exact ⟨by omega, by omega⟩ | (split <;> exact ⟨by omega, by omega⟩)) (fun hc57 => ?_) (fun hc57 => absurd ‹_› (by first | omega | assumption))
            refine Gs_iconst p195_74 ?_
            refine Gs_ist9 p195_75 (by first | rfl | assumption) ?_
            refine dn (n := ((PW : Nat) : Int)) (P := fun i => ∀ b10 b12 b13 : Option Value, Gs X d 195 77 [some (.ref 95), some (.int (iI c)), some (.int (iI n)), some (.int (iI x)), some (.int (iI part)), some (.long (iL (sN G i.toNat))), none, some (.long (iL ((10 : Int) ^ n.toNat))), none, some (.int (iI i)), b10, none, b12, b13] [] (s) (fun vv yy => ∃ zz : Int, vv = some (.int (iI zz)) ∧ (Is1 (raL part (FW (stR (vA s 98 (24 + c)) (fun e => rnM s (vA s 98 32 + e))) x n.toNat (vA s 98 c) 0).toNat ((10 : Int) ^ n.toNat).toNat) s) zz yy)) (by omega) (fun i hi hin ih => ?_) ?_ none none none
            · show ∀ b10 b12 b13 : Option Value, Gs X d 195 77 [some (.ref 95), some (.int (iI c)), some (.int (iI n)), some (.int (iI x)), some (.int (iI part)), some (.long (iL (sN G i.toNat))), none, some (.long (iL ((10 : Int) ^ n.toNat))), none, some (.int (iI i)), b10, none, b12, b13] [] (s) _
              intro c10 c12 c13
              refine Gs_iload p195_77 rfl rfl ?_
              refine Gs_iconst p195_79 ?_
              refine Gs_iload_n p195_80 rfl rfl ?_
              refine Gs_ishl p195_81 (shp n0 n1 hP) ?_
              refine Gs_icmp_ge (tgt := 215) p195_82 (by rfl) (by first | assumption | exact ⟨by omega, by omega⟩ | (split <;> exact ⟨by omega, by omega⟩)) (by first | assumption | exact ⟨by omega, by omega⟩ | (split <;> exact ⟨by omega, by omega⟩)) (fun hc82 => absurd ‹_› (by first | omega | assumption)) (fun hc82 => ?_)
              refine Gs_lconst (z := 1) p195_85 (by decide) ?_
              refine Gs_lst10 p195_86 (by first | rfl | assumption) ?_
              refine Gs_aload_n p195_88 rfl rfl ?_
              refine Gs_getR p195_89 (by first | rfl | assumption | exact (show isTale _ from by assumption).1 | exact (show isCamp _ _ from by assumption).1 | exact (show isRow _ _ from by assumption).1) (by rfl) ?_
              refine Gs_iconst p195_92 ?_
              refine Gs_iload_n p195_93 rfl rfl ?_
              refine Gs_iadd p195_94 ?_
              refine Gs_iald p195_95 (by first | rfl | assumption | exact (show isTale _ from by assumption).1 | exact (show isCamp _ _ from by assumption).1 | exact (show isRow _ _ from by assumption).1) (by omega) (by omega) (by omega) ?_
              rw [Int.zero_add c]
              refine Gs_ist12 p195_96 (by first | rfl | assumption) ?_
              refine Gs_iconst p195_98 ?_
              refine Gs_ist13 p195_99 (by first | rfl | assumption) ?_
              refine dn (n := n) (P := fun j => ∀ like cur : Int, 0 ≤ cur → cur ≤ 20 → like * gW (stR (vA s 98 (24 + c)) (fun e => rnM s (vA s 98 32 + e))) x (n - j).toNat (i.toNat / 2 ^ j.toNat) cur j = G i.toNat → Gs X d 195 101 [some (.ref 95), some (.int (iI c)), some (.int (iI n)), some (.int (iI x)), some (.int (iI part)), some (.long (iL (sN G i.toNat))), none, some (.long (iL ((10 : Int) ^ n.toNat))), none, some (.int (iI i)), some (.long (iL like)), none, some (.int (iI cur)), some (.int (iI j))] [] (s) (fun vv yy => ∃ zz : Int, vv = some (.int (iI zz)) ∧ (Is1 (raL part (FW (stR (vA s 98 (24 + c)) (fun e => rnM s (vA s 98 32 + e))) x n.toNat (vA s 98 c) 0).toNat ((10 : Int) ^ n.toNat).toNat) s) zz yy)) (by omega) (fun j hj hjn ih2 => ?_) ?_ 1 (vA s 98 c) hot.1 hot.2 ?_
              · show ∀ like cur : Int, 0 ≤ cur → cur ≤ 20 → like * gW (stR (vA s 98 (24 + c)) (fun e => rnM s (vA s 98 32 + e))) x (n - j).toNat (i.toNat / 2 ^ j.toNat) cur j = G i.toNat → Gs X d 195 101 [some (.ref 95), some (.int (iI c)), some (.int (iI n)), some (.int (iI x)), some (.int (iI part)), some (.long (iL (sN G i.toNat))), none, some (.long (iL ((10 : Int) ^ n.toNat))), none, some (.int (iI i)), some (.long (iL like)), none, some (.int (iI cur)), some (.int (iI j))] [] (s) _
                intro like cur q0 q1 e
                have bd := bq_dv (i := i) (j := j) (by omega) (by omega) (by omega) (by omega)
                have rb := rnM_b hT (vA s 98 32 + j)
                refine Gs_iload p195_101 rfl rfl ?_
                refine Gs_iload_n p195_103 rfl rfl ?_
                refine Gs_icmp_ge (tgt := 193) p195_104 (by rfl) (by first | assumption | exact ⟨by omega, by omega⟩ | (split <;> exact ⟨by omega, by omega⟩)) (by first | assumption | exact ⟨by omega, by omega⟩ | (split <;> exact ⟨by omega, by omega⟩)) (fun hc104 => absurd ‹_› (by first | omega | assumption)) (fun hc104 => ?_)
                refine Gs_lload p195_107 rfl rfl ?_
                refine Gs_iload p195_109 rfl rfl ?_
                refine Gs_iload p195_111 rfl rfl ?_
                refine Gs_callS2I p195_113 (by rfl) (Nat.le_of_ble_eq_true rfl) (by decide) (c_has (by omega) (by omega)) (by omega) ?_
                refine Gs_ifb_eq (tgt := 124) p195_116 (by rfl) (fun h116 => ?_) (fun h116 => ?_)
                · refine Gs_bipush p195_124 (by decide) ?_
                  refine Gs_iload_n p195_126 rfl rfl ?_
                  refine Gs_isub p195_127 ?_
                  refine Gs_i2l p195_128 (by first | assumption | exact ⟨by omega, by omega⟩ | (split <;> exact ⟨by omega, by omega⟩)) ?_
                  refine Gs_lmul p195_129 ?_
                  refine Gs_lst10 p195_130 (by first | rfl | assumption) ?_
                  refine Gs_iload p195_132 rfl rfl ?_
                  refine Gs_if_ne (tgt := 141) p195_134 (by rfl) (by first | assumption | exact ⟨by omega, by omega⟩ | (split <;> exact ⟨by omega, by omega⟩)) (fun h134 => ?_) (fun h134 => ?_)
                  · refine Gs_iload p195_141 rfl rfl ?_
                    refine Gs_aload_n p195_143 rfl rfl ?_
                    refine Gs_getR p195_144 (by first | rfl | assumption | exact (show isTale _ from by assumption).1 | exact (show isCamp _ _ from by assumption).1 | exact (show isRow _ _ from by assumption).1) (by rfl) ?_
                    refine Gs_bipush p195_147 (by decide) ?_
                    refine Gs_iload_n p195_149 rfl rfl ?_
                    refine Gs_iadd p195_150 ?_
                    refine Gs_iald p195_151 (by first | rfl | assumption | exact (show isTale _ from by assumption).1 | exact (show isCamp _ _ from by assumption).1 | exact (show isRow _ _ from by assumption).1) (by omega) (by omega) (by omega) ?_
                    refine Gs_aload_n p195_152 rfl rfl ?_
                    refine Gs_aload_n p195_153 rfl rfl ?_
                    refine Gs_getR p195_154 (by first | rfl | assumption | exact (show isTale _ from by assumption).1 | exact (show isCamp _ _ from by assumption).1 | exact (show isRow _ _ from by assumption).1) (by rfl) ?_
                    refine Gs_bipush p195_157 (by decide) ?_
                    refine Gs_iald p195_159 (by first | rfl | assumption | exact (show isTale _ from by assumption).1 | exact (show isCamp _ _ from by assumption).1 | exact (show isRow _ _ from by assumption).1) (by omega) (by omega) (by omega) ?_
                    refine Gs_iload p195_160 rfl rfl ?_
                    refine Gs_iadd p195_162 ?_
                    refine Gs_callV1I p195_163 (by rfl) (by rfl) (by rfl) (Nat.le_of_ble_eq_true rfl) (by decide) (c_mrainAt hT (by omega) (by omega)) (by omega) ?_
                    refine Gs_iload p195_166 rfl rfl ?_
                    refine Gs_iload p195_168 rfl rfl ?_
                    refine Gs_callS2I p195_170 (by rfl) (Nat.le_of_ble_eq_true rfl) (by decide) (c_has (by omega) (by omega)) (by omega) ?_
                    refine Gs_ifb_eq (tgt := 180) p195_173 (by rfl) (fun h173 => ?_) (fun h173 => ?_)
                    · refine Gs_iconst p195_180 ?_
                      refine Gs_iadd p195_181 ?_
                      refine Gs_callS3I p195_182 (by rfl) (Nat.le_of_ble_eq_true rfl) (by decide) (c_cooler q0 q1 gl (by omega) (by omega)) (by omega) ?_
                      refine Gs_ist12 p195_185 (by first | rfl | assumption) ?_
                      refine Gs_iinc13 (b63 := none) p195_187 (by first | rfl | assumption) ?_
                      refine Gs_goto (tgt := 101) p195_190 (by rfl) ?_
                      first
                        | exact absurd h173 h116
                        | exact absurd h116 h173
                        | exact ih2 _ _ (by omega) (by omega) (gW_on hj hjn e (bd.mp h116) (stR_z (Decidable.not_not.mp h134)))
                        | exact ih2 _ _ (by omega) (by omega) (gW_off hj hjn e (fun r => h116 (bd.mpr r)) (stR_z (Decidable.not_not.mp h134)))
                        | exact ih2 _ _ (burntI_b q1 (by omega)).1 (burntI_b q1 (by omega)).2 (gW_on hj hjn e (bd.mp h116) (stR_t h134))
                        | exact ih2 _ _ (burntI_b q1 (by omega)).1 (burntI_b q1 (by omega)).2 (gW_off hj hjn e (fun r => h116 (bd.mpr r)) (stR_g h134))
                    · refine Gs_iconst p195_176 ?_
                      refine Gs_goto (tgt := 181) p195_177 (by rfl) ?_
                      refine Gs_iadd p195_181 ?_
                      refine Gs_callS3I p195_182 (by rfl) (Nat.le_of_ble_eq_true rfl) (by decide) (c_cooler q0 q1 gl (by omega) (by omega)) (by omega) ?_
                      refine Gs_ist12 p195_185 (by first | rfl | assumption) ?_
                      refine Gs_iinc13 (b63 := none) p195_187 (by first | rfl | assumption) ?_
                      refine Gs_goto (tgt := 101) p195_190 (by rfl) ?_
                      first
                        | exact absurd h173 h116
                        | exact absurd h116 h173
                        | exact ih2 _ _ (by omega) (by omega) (gW_on hj hjn e (bd.mp h116) (stR_z (Decidable.not_not.mp h134)))
                        | exact ih2 _ _ (by omega) (by omega) (gW_off hj hjn e (fun r => h116 (bd.mpr r)) (stR_z (Decidable.not_not.mp h134)))
                        | exact ih2 _ _ (burntI_b q1 (by omega)).1 (burntI_b q1 (by omega)).2 (gW_on hj hjn e (bd.mp h116) (stR_t h134))
                        | exact ih2 _ _ (burntI_b q1 (by omega)).1 (burntI_b q1 (by omega)).2 (gW_off hj hjn e (fun r => h116 (bd.mpr r)) (stR_g h134))
                  · refine Gs_iconst p195_137 ?_
                    refine Gs_goto (tgt := 185) p195_138 (by rfl) ?_
                    refine Gs_ist12 p195_185 (by first | rfl | assumption) ?_
                    refine Gs_iinc13 (b63 := none) p195_187 (by first | rfl | assumption) ?_
                    refine Gs_goto (tgt := 101) p195_190 (by rfl) ?_
                    first
                      | exact absurd h173 h116
                      | exact absurd h116 h173
                      | exact ih2 _ _ (by omega) (by omega) (gW_on hj hjn e (bd.mp h116) (stR_z (Decidable.not_not.mp h134)))
                      | exact ih2 _ _ (by omega) (by omega) (gW_off hj hjn e (fun r => h116 (bd.mpr r)) (stR_z (Decidable.not_not.mp h134)))
                      | exact ih2 _ _ (burntI_b q1 (by omega)).1 (burntI_b q1 (by omega)).2 (gW_on hj hjn e (bd.mp h116) (stR_t h134))
                      | exact ih2 _ _ (burntI_b q1 (by omega)).1 (burntI_b q1 (by omega)).2 (gW_off hj hjn e (fun r => h116 (bd.mpr r)) (stR_g h134))
                · refine Gs_iload_n p195_119 rfl rfl ?_
                  refine Gs_i2l p195_120 (by first | assumption | exact ⟨by omega, by omega⟩ | (split <;> exact ⟨by omega, by omega⟩)) ?_
                  refine Gs_goto (tgt := 129) p195_121 (by rfl) ?_
                  refine Gs_lmul p195_129 ?_
                  refine Gs_lst10 p195_130 (by first | rfl | assumption) ?_
                  refine Gs_iload p195_132 rfl rfl ?_
                  refine Gs_if_ne (tgt := 141) p195_134 (by rfl) (by first | assumption | exact ⟨by omega, by omega⟩ | (split <;> exact ⟨by omega, by omega⟩)) (fun h134 => ?_) (fun h134 => ?_)
                  · refine Gs_iload p195_141 rfl rfl ?_
                    refine Gs_aload_n p195_143 rfl rfl ?_
                    refine Gs_getR p195_144 (by first | rfl | assumption | exact (show isTale _ from by assumption).1 | exact (show isCamp _ _ from by assumption).1 | exact (show isRow _ _ from by assumption).1) (by rfl) ?_
                    refine Gs_bipush p195_147 (by decide) ?_
                    refine Gs_iload_n p195_149 rfl rfl ?_
                    refine Gs_iadd p195_150 ?_
                    refine Gs_iald p195_151 (by first | rfl | assumption | exact (show isTale _ from by assumption).1 | exact (show isCamp _ _ from by assumption).1 | exact (show isRow _ _ from by assumption).1) (by omega) (by omega) (by omega) ?_
                    refine Gs_aload_n p195_152 rfl rfl ?_
                    refine Gs_aload_n p195_153 rfl rfl ?_
                    refine Gs_getR p195_154 (by first | rfl | assumption | exact (show isTale _ from by assumption).1 | exact (show isCamp _ _ from by assumption).1 | exact (show isRow _ _ from by assumption).1) (by rfl) ?_
                    refine Gs_bipush p195_157 (by decide) ?_
                    refine Gs_iald p195_159 (by first | rfl | assumption | exact (show isTale _ from by assumption).1 | exact (show isCamp _ _ from by assumption).1 | exact (show isRow _ _ from by assumption).1) (by omega) (by omega) (by omega) ?_
                    refine Gs_iload p195_160 rfl rfl ?_
                    refine Gs_iadd p195_162 ?_
                    refine Gs_callV1I p195_163 (by rfl) (by rfl) (by rfl) (Nat.le_of_ble_eq_true rfl) (by decide) (c_mrainAt hT (by omega) (by omega)) (by omega) ?_
                    refine Gs_iload p195_166 rfl rfl ?_
                    refine Gs_iload p195_168 rfl rfl ?_
                    refine Gs_callS2I p195_170 (by rfl) (Nat.le_of_ble_eq_true rfl) (by decide) (c_has (by omega) (by omega)) (by omega) ?_
                    refine Gs_ifb_eq (tgt := 180) p195_173 (by rfl) (fun h173 => ?_) (fun h173 => ?_)
                    · refine Gs_iconst p195_180 ?_
                      refine Gs_iadd p195_181 ?_
                      refine Gs_callS3I p195_182 (by rfl) (Nat.le_of_ble_eq_true rfl) (by decide) (c_cooler q0 q1 gl (by omega) (by omega)) (by omega) ?_
                      refine Gs_ist12 p195_185 (by first | rfl | assumption) ?_
                      refine Gs_iinc13 (b63 := none) p195_187 (by first | rfl | assumption) ?_
                      refine Gs_goto (tgt := 101) p195_190 (by rfl) ?_
                      first
                        | exact absurd h173 h116
                        | exact absurd h116 h173
                        | exact ih2 _ _ (by omega) (by omega) (gW_on hj hjn e (bd.mp h116) (stR_z (Decidable.not_not.mp h134)))
                        | exact ih2 _ _ (by omega) (by omega) (gW_off hj hjn e (fun r => h116 (bd.mpr r)) (stR_z (Decidable.not_not.mp h134)))
                        | exact ih2 _ _ (burntI_b q1 (by omega)).1 (burntI_b q1 (by omega)).2 (gW_on hj hjn e (bd.mp h116) (stR_t h134))
                        | exact ih2 _ _ (burntI_b q1 (by omega)).1 (burntI_b q1 (by omega)).2 (gW_off hj hjn e (fun r => h116 (bd.mpr r)) (stR_g h134))
                    · refine Gs_iconst p195_176 ?_
                      refine Gs_goto (tgt := 181) p195_177 (by rfl) ?_
                      refine Gs_iadd p195_181 ?_
                      refine Gs_callS3I p195_182 (by rfl) (Nat.le_of_ble_eq_true rfl) (by decide) (c_cooler q0 q1 gl (by omega) (by omega)) (by omega) ?_
                      refine Gs_ist12 p195_185 (by first | rfl | assumption) ?_
                      refine Gs_iinc13 (b63 := none) p195_187 (by first | rfl | assumption) ?_
                      refine Gs_goto (tgt := 101) p195_190 (by rfl) ?_
                      first
                        | exact absurd h173 h116
                        | exact absurd h116 h173
                        | exact ih2 _ _ (by omega) (by omega) (gW_on hj hjn e (bd.mp h116) (stR_z (Decidable.not_not.mp h134)))
                        | exact ih2 _ _ (by omega) (by omega) (gW_off hj hjn e (fun r => h116 (bd.mpr r)) (stR_z (Decidable.not_not.mp h134)))
                        | exact ih2 _ _ (burntI_b q1 (by omega)).1 (burntI_b q1 (by omega)).2 (gW_on hj hjn e (bd.mp h116) (stR_t h134))
                        | exact ih2 _ _ (burntI_b q1 (by omega)).1 (burntI_b q1 (by omega)).2 (gW_off hj hjn e (fun r => h116 (bd.mpr r)) (stR_g h134))
                  · refine Gs_iconst p195_137 ?_
                    refine Gs_goto (tgt := 185) p195_138 (by rfl) ?_
                    refine Gs_ist12 p195_185 (by first | rfl | assumption) ?_
                    refine Gs_iinc13 (b63 := none) p195_187 (by first | rfl | assumption) ?_
                    refine Gs_goto (tgt := 101) p195_190 (by rfl) ?_
                    first
                      | exact absurd h173 h116
                      | exact absurd h116 h173
                      | exact ih2 _ _ (by omega) (by omega) (gW_on hj hjn e (bd.mp h116) (stR_z (Decidable.not_not.mp h134)))
                      | exact ih2 _ _ (by omega) (by omega) (gW_off hj hjn e (fun r => h116 (bd.mpr r)) (stR_z (Decidable.not_not.mp h134)))
                      | exact ih2 _ _ (burntI_b q1 (by omega)).1 (burntI_b q1 (by omega)).2 (gW_on hj hjn e (bd.mp h116) (stR_t h134))
                      | exact ih2 _ _ (burntI_b q1 (by omega)).1 (burntI_b q1 (by omega)).2 (gW_off hj hjn e (fun r => h116 (bd.mpr r)) (stR_g h134))
              · show ∀ like cur : Int, 0 ≤ cur → cur ≤ 20 → like * gW (stR (vA s 98 (24 + c)) (fun e => rnM s (vA s 98 32 + e))) x (n - (n)).toNat (i.toNat / 2 ^ (n).toNat) cur (n) = G i.toNat → Gs X d 195 101 [some (.ref 95), some (.int (iI c)), some (.int (iI n)), some (.int (iI x)), some (.int (iI part)), some (.long (iL (sN G i.toNat))), none, some (.long (iL ((10 : Int) ^ n.toNat))), none, some (.int (iI i)), some (.long (iL like)), none, some (.int (iI cur)), some (.int (iI (n)))] [] (s) _
                intro like cur q0 q1 e
                rw [show (n - n).toNat = 0 by omega] at e
                have e2 : like * (if 0 < cur then (1 : Int) else 0) = G i.toNat := e
                refine Gs_iload p195_101 rfl rfl ?_
                refine Gs_iload_n p195_103 rfl rfl ?_
                refine Gs_icmp_ge (tgt := 193) p195_104 (by rfl) (by first | assumption | exact ⟨by omega, by omega⟩ | (split <;> exact ⟨by omega, by omega⟩)) (by first | assumption | exact ⟨by omega, by omega⟩ | (split <;> exact ⟨by omega, by omega⟩)) (fun hc104 => ?_) (fun hc104 => absurd ‹_› (by first | omega | assumption))
                refine Gs_lload p195_193 rfl rfl ?_
                refine Gs_iload p195_195 rfl rfl ?_
                refine Gs_if_le (tgt := 205) p195_197 (by rfl) (by first | assumption | exact ⟨by omega, by omega⟩ | (split <;> exact ⟨by omega, by omega⟩)) (fun h197 => ?_) (fun h197 => ?_)
                · refine Gs_lconst (z := 0) p195_205 (by decide) ?_
                  refine Gs_ladd p195_206 ?_
                  refine Gs_lst5 p195_207 (by first | rfl | assumption) ?_
                  refine Gs_iinc9 (b59 := none) p195_209 (by first | rfl | assumption) ?_
                  refine Gs_goto (tgt := 77) p195_212 (by rfl) ?_
                  have es : sN G (i + 1).toNat = sN G i.toNat + G i.toNat := by
                    rw [show (i + 1).toNat = i.toNat + 1 by omega]
                    rfl
                  first
                    | (rw [if_neg (show ¬ 0 < cur by omega), Int.mul_zero] at e2
                       rw [← e2] at es
                       rw [← es]
                       exact ih _ _ _)
                    | (rw [if_pos (show 0 < cur by omega), Int.mul_one] at e2
                       rw [← e2] at es
                       rw [← es]
                       exact ih _ _ _)
                · refine Gs_lload p195_200 rfl rfl ?_
                  refine Gs_goto (tgt := 206) p195_202 (by rfl) ?_
                  refine Gs_ladd p195_206 ?_
                  refine Gs_lst5 p195_207 (by first | rfl | assumption) ?_
                  refine Gs_iinc9 (b59 := none) p195_209 (by first | rfl | assumption) ?_
                  refine Gs_goto (tgt := 77) p195_212 (by rfl) ?_
                  have es : sN G (i + 1).toNat = sN G i.toNat + G i.toNat := by
                    rw [show (i + 1).toNat = i.toNat + 1 by omega]
                    rfl
                  first
                    | (rw [if_neg (show ¬ 0 < cur by omega), Int.mul_zero] at e2
                       rw [← e2] at es
                       rw [← es]
                       exact ih _ _ _)
                    | (rw [if_pos (show 0 < cur by omega), Int.mul_one] at e2
                       rw [← e2] at es
                       rw [← es]
                       exact ih _ _ _)
              · show 1 * gW (stR (vA s 98 (24 + c)) (fun e => rnM s (vA s 98 32 + e))) x (n - 0).toNat (i.toNat / 2 ^ (0 : Int).toNat) (vA s 98 c) 0 = G i.toNat
                rw [Int.one_mul, Int.sub_zero, show (0 : Int).toNat = 0 from rfl, Nat.pow_zero, Nat.div_one, hG]
            · show ∀ b10 b12 b13 : Option Value, Gs X d 195 77 [some (.ref 95), some (.int (iI c)), some (.int (iI n)), some (.int (iI x)), some (.int (iI part)), some (.long (iL (sN G (((PW : Nat) : Int)).toNat))), none, some (.long (iL ((10 : Int) ^ n.toNat))), none, some (.int (iI (((PW : Nat) : Int)))), b10, none, b12, b13] [] (s) _
              intro c10 c12 c13
              refine Gs_iload p195_77 rfl rfl ?_
              refine Gs_iconst p195_79 ?_
              refine Gs_iload_n p195_80 rfl rfl ?_
              refine Gs_ishl p195_81 (shp n0 n1 hP) ?_
              refine Gs_icmp_ge (tgt := 215) p195_82 (by rfl) (by first | assumption | exact ⟨by omega, by omega⟩ | (split <;> exact ⟨by omega, by omega⟩)) (by first | assumption | exact ⟨by omega, by omega⟩ | (split <;> exact ⟨by omega, by omega⟩)) (fun hc82 => ?_) (fun hc82 => absurd ‹_› (by first | omega | assumption))
              rw [show Int.toNat ((PW : Nat) : Int) = PW from rfl, hS, hA, hB]
              refine Gs_lload p195_215 rfl rfl ?_
              refine Gs_lload p195_217 rfl rfl ?_
              refine Gs_iload p195_219 rfl rfl ?_
              refine Gs_callS3I p195_221 (by rfl) (Nat.le_of_ble_eq_true rfl) (by decide) (c_lowest (a := A) (b := B) (by omega) (by omega) (by omega) ⟨by omega, by omega⟩) (by omega) ?_
              refine Gs_iret p195_224 rfl ⟨_, rfl, ?_⟩
              exact ⟨rfl, rfl⟩
        · exfalso; omega

set_option maxHeartbeats 1000000 in
set_option maxRecDepth 4000 in
theorem m_rains_no {X : vX} {s : St} {c n x part : Int} (hT : MT s) (gc : rg c) (gn : rg n) (gx : rg x) (gp : rg part) (hno : ¬ ((0 ≤ c ∧ c < vA s 96 2) ∧ (0 ≤ n ∧ n ≤ 8) ∧ (0 ≤ x ∧ x ≤ 10) ∧ (0 ≤ part ∧ part ≤ 1))) : OkI X 2 195 [.ref 95, .int (iI c), .int (iI n), .int (iI x), .int (iI part)] s (Is1 (-1) s) := by
  refine Ok.of (r := vm_m195) (ls := [some (.ref 95), some (.int (iI c)), some (.int (iI n)), some (.int (iI x)), some (.int (iI part)), none, none, none, none, none, none, none, none, none]) rfl (Nat.le_of_ble_eq_true rfl) rfl (fun d hd => ?_)
  refine Gs_aload_n p195_0 rfl rfl ?_
  refine Gs_iload_n p195_1 rfl rfl ?_
  refine Gs_callV1I p195_2 (by rfl) (by rfl) (by first | rfl | assumption | exact (show isTale _ from by assumption).1 | exact (show isCamp _ _ from by assumption).1 | exact (show isRow _ _ from by assumption).1) (Nat.le_of_ble_eq_true rfl) (by decide) (c_misCompany hT gc) (by omega) ?_
  refine Gs_ifb_eq (tgt := 43) p195_5 (by rfl) (fun h5 => ?_) (fun h5 => ?_)
  · refine Gs_iconst p195_43 ?_
    refine Gs_iret p195_44 rfl ⟨_, rfl, ?_⟩
    exact ⟨rfl, rfl⟩
  · refine Gs_iload_n p195_8 rfl rfl ?_
    refine Gs_i2l p195_9 (by first | assumption | exact ⟨by omega, by omega⟩ | (split <;> exact ⟨by omega, by omega⟩)) ?_
    refine Gs_lconst (z := 0) p195_10 (by decide) ?_
    refine Gs_ldc2 (z := (8)) p195_11 (by decide) ?_
    refine Gs_callS3I p195_14 (by rfl) (Nat.le_of_ble_eq_true rfl) (by decide) (c_in ⟨by have := gn.1; omega, by have := gn.2; omega⟩ ⟨by omega, by omega⟩ ⟨by omega, by omega⟩) (by omega) ?_
    refine Gs_ifb_eq (tgt := 43) p195_17 (by rfl) (fun h17 => ?_) (fun h17 => ?_)
    · refine Gs_iconst p195_43 ?_
      refine Gs_iret p195_44 rfl ⟨_, rfl, ?_⟩
      exact ⟨rfl, rfl⟩
    · refine Gs_iload_n p195_20 rfl rfl ?_
      refine Gs_i2l p195_21 (by first | assumption | exact ⟨by omega, by omega⟩ | (split <;> exact ⟨by omega, by omega⟩)) ?_
      refine Gs_lconst (z := 0) p195_22 (by decide) ?_
      refine Gs_ldc2 (z := (10)) p195_23 (by decide) ?_
      refine Gs_callS3I p195_26 (by rfl) (Nat.le_of_ble_eq_true rfl) (by decide) (c_in ⟨by have := gx.1; omega, by have := gx.2; omega⟩ ⟨by omega, by omega⟩ ⟨by omega, by omega⟩) (by omega) ?_
      refine Gs_ifb_eq (tgt := 43) p195_29 (by rfl) (fun h29 => ?_) (fun h29 => ?_)
      · refine Gs_iconst p195_43 ?_
        refine Gs_iret p195_44 rfl ⟨_, rfl, ?_⟩
        exact ⟨rfl, rfl⟩
      · refine Gs_iload p195_32 rfl rfl ?_
        refine Gs_i2l p195_34 (by first | assumption | exact ⟨by omega, by omega⟩ | (split <;> exact ⟨by omega, by omega⟩)) ?_
        refine Gs_lconst (z := 0) p195_35 (by decide) ?_
        refine Gs_lconst (z := 1) p195_36 (by decide) ?_
        refine Gs_callS3I p195_37 (by rfl) (Nat.le_of_ble_eq_true rfl) (by decide) (c_in ⟨by have := gp.1; omega, by have := gp.2; omega⟩ ⟨by omega, by omega⟩ ⟨by omega, by omega⟩) (by omega) ?_
        refine Gs_ifb_ne (tgt := 45) p195_40 (by rfl) (fun h40 => ?_) (fun h40 => ?_)
        · exfalso; omega
        · refine Gs_iconst p195_43 ?_
          refine Gs_iret p195_44 rfl ⟨_, rfl, ?_⟩
          exact ⟨rfl, rfl⟩
