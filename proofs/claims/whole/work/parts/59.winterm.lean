/-! winter, the reference's side -/
theorem MOpH.tds {s t : St} {a : Nat} {n hr : Int} {V : Int → Int → Int} (o : MOpH s t a n V hr) (h0 : 0 ≤ n) (hn : n ≤ 4) (hz : ∀ k, n ≤ k → k < 4 → vA s a (28 + k) = 0) : sm (fun k => vA t a (28 + k)) 4 = sm (tdV V) n := by
  rw [sm_0 (f := fun k => vA t a (28 + k)) h0 hn (fun k b0 b1 => ?_)]
  · refine sm_cong (fun k b0 b1 => ?_)
    unfold tdV
    show vA t a (28 + k) = V k 7
    rw [← mv7 (n := n) b0 b1, o.1]
  · have u := o.2.2.2.2 k 7 b0 b1 (by omega) (by omega)
    rw [mi_7] at u
    show vA t a (28 + k) = 0
    rw [u, hz k b0 b1]
abbrev B99 (s : St) : St := cpS s 98 0 99 0 33
theorem b99_A {s : St} {a : Nat} (h : a ≠ 99) (z : Int) : vA (B99 s) a z = vA s a z := by rw [cpS_A, if_neg (fun e => h e.1)]
theorem b99_at {s : St} {z : Int} (h0 : 0 ≤ z) (h1 : z < 33) : vA (B99 s) 99 z = vA s 98 z := by
  rw [cpS_A, if_pos ⟨rfl, h0, by omega⟩]
  congr 1; omega
theorem b99_mv {s : St} {n : Int} (hn : n ≤ 4) : mv (B99 s) 99 0 n = mv s 98 0 n := by
  funext k w
  unfold mv
  split
  · rename_i r
    have := mi_b r.1.1 (show k < 4 by omega) r.2.1 r.2.2
    rw [b99_at (by omega) (by omega)]
  · rfl
set_option maxHeartbeats 8000000 in
set_option maxRecDepth 4000 in
theorem m_winter {X : vX} {s : St} {L K z v what : Int} {R : Int → Int} {B : Int → Int → Int} (hT : MT s) (hm : MC s 98 (vA s 96 2)) (g : GoodV (mv s 98 0 (vA s 96 2)) (vA s 96 2) L K) (hL : L ≤ 9) (hK : K < 9999) (hRf : rnM s = R) (hR0 : ∀ x, 0 ≤ R x) (hBf : ∀ l w, 0 ≤ l → l < L → 0 ≤ w → w < 4 → bhM s l w = B l w) (hL2 : vA s 96 0 = L) (hB : ∀ l w, B l w = -4 ∨ (0 ≤ B l w ∧ B l w < L)) (hh : vA s 98 32 < 50000) (hz : ∀ k, vA s 96 2 ≤ k → k < 4 → vA s 98 k = 0 ∧ vA s 98 (28 + k) = 0) (z0 : 0 ≤ z) (z1 : z ≤ 9999) (vv0 : 1 ≤ v) (vv1 : v ≤ 60) (w0 : 0 ≤ what) (w1 : what ≤ 1) : OkI X 4 197 [.ref 95, .int (iI z), .int (iI v), .int (iI what)] s (fun y u => y = (if what = 0 then sm (inV (wnV R B (vA s 96 2) z (mv s 98 0 (vA s 96 2), vA s 98 32) v.toNat).1) (vA s 96 2) else sm (tdV (wnV R B (vA s 96 2) z (mv s 98 0 (vA s 96 2), vA s 98 32) v.toNat).1) (vA s 96 2) - sm (tdV (mv s 98 0 (vA s 96 2))) (vA s 96 2)) ∧ MOpH (B99 s) u 99 (vA s 96 2) (wnV R B (vA s 96 2) z (mv s 98 0 (vA s 96 2), vA s 98 32) v.toNat).1 (wnV R B (vA s 96 2) z (mv s 98 0 (vA s 96 2), vA s 98 32) v.toNat).2) := by
  refine Ok.of (r := vm_m197) (ls := [some (.ref 95), some (.int (iI z)), some (.int (iI v)), some (.int (iI what)), none, none, none, none, none, none, none, none]) rfl (Nat.le_of_ble_eq_true rfl) rfl (fun d hd => ?_)
  obtain ⟨a1, a2, a3, a4, a5, a6, a7, a8⟩ := id hT
  obtain ⟨m1, m2, m3, m4⟩ := id hm
  have gw := fun k hk => g.wn (p := (mv s 98 0 (vA s 96 2), vA s 98 32)) (R := R) (B := B) (z := z) (by omega) hR0 hB hL hK k hk
  have hzr : ∀ k, vA s 96 2 ≤ k → k < 4 → vA (B99 s) 99 k = 0 := fun k c0 c1 => by rw [b99_at (by omega) (by omega)]; exact (hz k c0 c1).1
  have hz7 : ∀ k, vA s 96 2 ≤ k → k < 4 → vA (B99 s) 99 (28 + k) = 0 := fun k c0 c1 => by rw [b99_at (by omega) (by omega)]; exact (hz k c0 c1).2
  refine Gs_iload_n p197_0 rfl rfl ?_
  refine Gs_i2l p197_1 (by first | assumption | exact ⟨by omega, by omega⟩ | (split <;> exact ⟨by omega, by omega⟩)) ?_
  refine Gs_lconst (z := 0) p197_2 (by decide) ?_
  refine Gs_ldc2 (z := (9999)) p197_3 (by decide) ?_
  refine Gs_callS3I p197_6 (by rfl) (Nat.le_of_ble_eq_true rfl) (by decide) (c_in ⟨by omega, by omega⟩ ⟨by omega, by omega⟩ ⟨by omega, by omega⟩) (by omega) ?_
  refine Gs_ifb_eq (tgt := 34) p197_9 (by rfl) (fun h9 => ?_) (fun h9 => ?_)
  · refine Gs_iconst p197_34 ?_
    refine Gs_iret p197_35 rfl ⟨_, rfl, ?_⟩
    exfalso; omega
  · refine Gs_iload_n p197_12 rfl rfl ?_
    refine Gs_i2l p197_13 (by first | assumption | exact ⟨by omega, by omega⟩ | (split <;> exact ⟨by omega, by omega⟩)) ?_
    refine Gs_lconst (z := 1) p197_14 (by decide) ?_
    refine Gs_ldc2 (z := (60)) p197_15 (by decide) ?_
    refine Gs_callS3I p197_18 (by rfl) (Nat.le_of_ble_eq_true rfl) (by decide) (c_in ⟨by omega, by omega⟩ ⟨by omega, by omega⟩ ⟨by omega, by omega⟩) (by omega) ?_
    refine Gs_ifb_eq (tgt := 34) p197_21 (by rfl) (fun h21 => ?_) (fun h21 => ?_)
    · refine Gs_iconst p197_34 ?_
      refine Gs_iret p197_35 rfl ⟨_, rfl, ?_⟩
      exfalso; omega
    · refine Gs_iload_n p197_24 rfl rfl ?_
      refine Gs_i2l p197_25 (by first | assumption | exact ⟨by omega, by omega⟩ | (split <;> exact ⟨by omega, by omega⟩)) ?_
      refine Gs_lconst (z := 0) p197_26 (by decide) ?_
      refine Gs_lconst (z := 1) p197_27 (by decide) ?_
      refine Gs_callS3I p197_28 (by rfl) (Nat.le_of_ble_eq_true rfl) (by decide) (c_in ⟨by omega, by omega⟩ ⟨by omega, by omega⟩ ⟨by omega, by omega⟩) (by omega) ?_
      refine Gs_ifb_ne (tgt := 36) p197_31 (by rfl) (fun h31 => ?_) (fun h31 => ?_)
      · refine Gs_aload_n p197_36 rfl rfl ?_
        refine Gs_getR p197_37 (by first | rfl | assumption | exact (show isTale _ from by assumption).1 | exact (show isCamp _ _ from by assumption).1 | exact (show isRow _ _ from by assumption).1) (by rfl) ?_
        refine Gs_iconst p197_40 ?_
        refine Gs_aload_n p197_41 rfl rfl ?_
        refine Gs_getR p197_42 (by first | rfl | assumption | exact (show isTale _ from by assumption).1 | exact (show isCamp _ _ from by assumption).1 | exact (show isRow _ _ from by assumption).1) (by rfl) ?_
        refine Gs_iconst p197_45 ?_
        refine Gs_bipush p197_46 (by decide) ?_
        refine Gs_callS5W p197_48 (by rfl) (Nat.le_of_ble_eq_true rfl) (by decide) (c_copies isA98 isA99 (by decide) (by omega) (by omega) (by omega) (by omega) (by omega) (by decide) (by decide)) (by omega) ?_
        refine Gs_iconst p197_51 ?_
        refine Gs_ist4 p197_52 (by first | rfl | assumption) ?_
        refine dn (n := v) (P := fun i => ∀ (u : St) (b5 b6 b7 b8 b9 b10 b11 : Option Value), MOpH (B99 s) u 99 (vA s 96 2) (wnV R B (vA s 96 2) z (mv s 98 0 (vA s 96 2), vA s 98 32) i.toNat).1 (wnV R B (vA s 96 2) z (mv s 98 0 (vA s 96 2), vA s 98 32) i.toNat).2 → Gs X d 197 54 [some (.ref 95), some (.int (iI z)), some (.int (iI v)), some (.int (iI what)), some (.int (iI i)), b5, b6, b7, b8, b9, b10, b11] [] (u) (fun vv yy => ∃ zz : Int, vv = some (.int (iI zz)) ∧ (fun y u => y = (if what = 0 then sm (inV (wnV R B (vA s 96 2) z (mv s 98 0 (vA s 96 2), vA s 98 32) v.toNat).1) (vA s 96 2) else sm (tdV (wnV R B (vA s 96 2) z (mv s 98 0 (vA s 96 2), vA s 98 32) v.toNat).1) (vA s 96 2) - sm (tdV (mv s 98 0 (vA s 96 2))) (vA s 96 2)) ∧ MOpH (B99 s) u 99 (vA s 96 2) (wnV R B (vA s 96 2) z (mv s 98 0 (vA s 96 2), vA s 98 32) v.toNat).1 (wnV R B (vA s 96 2) z (mv s 98 0 (vA s 96 2), vA s 98 32) v.toNat).2) zz yy)) (by omega) (fun i hi hin ih => ?_) ?_ (B99 s) none none none none none none none (by have O := (MOp.refl (B99 s) 99 (vA s 96 2)).h; rw [b99_mv (by omega), b99_at (by omega) (by omega)] at O; exact O)
        · show ∀ (u : St) (b5 b6 b7 b8 b9 b10 b11 : Option Value), MOpH (B99 s) u 99 (vA s 96 2) (wnV R B (vA s 96 2) z (mv s 98 0 (vA s 96 2), vA s 98 32) i.toNat).1 (wnV R B (vA s 96 2) z (mv s 98 0 (vA s 96 2), vA s 98 32) i.toNat).2 → Gs X d 197 54 [some (.ref 95), some (.int (iI z)), some (.int (iI v)), some (.int (iI what)), some (.int (iI i)), b5, b6, b7, b8, b9, b10, b11] [] (u) _
          intro u b5 b6 b7 b8 b9 b10 b11 o
          have e96 : ∀ z, vA u 96 z = vA s 96 z := fun z => (o.2.1 96 z (by decide)).trans (b99_A (by decide) z)
          have mcu : MC u 99 (vA s 96 2) := MC.of o (gw i.toNat (by omega)).1 (by omega) (by omega) (by have := (gw i.toNat (by omega)).2.1; dsimp only at this; omega) (by have := (gw i.toNat (by omega)).2.2; dsimp only at this; omega) hzr
          obtain ⟨q1, q2, q3⟩ := gw i.toNat (by omega)
          dsimp only at q2 q3
          have hT' : MT u := hT.cong e96
          have hdr := drw_r z i
          have hC0 := Int.emod_nonneg (drw z i / 8) (show vA s 96 2 ≠ 0 by omega)
          have hC1 := Int.emod_lt_of_pos (drw z i / 8) (show 0 < vA s 96 2 by omega)
          have hG0 := Int.emod_nonneg (drw z i / 64) (show vA s 96 2 ≠ 0 by omega)
          have hG1 := Int.emod_lt_of_pos (drw z i / 64) (show 0 < vA s 96 2 by omega)
          have hW0 : 0 ≤ drw z i / 64 % 4 := by omega
          have hW1 : drw z i / 64 % 4 < 4 := by omega
          have hxx := drw_b z0 z1 hi (show i ≤ 60 by omega)
          have eR : rnM u (vA u 99 32) = R (wnV R B (vA s 96 2) z (mv s 98 0 (vA s 96 2), vA s 98 32) i.toNat).2 := by rw [rnM_cong e96, hRf, o.2.2.2.1]
          have v0 : (wnV R B (vA s 96 2) z (mv s 98 0 (vA s 96 2), vA s 98 32) i.toNat).1 (drw z i / 8 % vA s 96 2) 0 = vA u 99 (drw z i / 8 % vA s 96 2) := by rw [← mv0 (n := vA s 96 2) hC0 hC1, o.1]
          have vg : (wnV R B (vA s 96 2) z (mv s 98 0 (vA s 96 2), vA s 98 32) i.toNat).1 (drw z i / 64 % vA s 96 2) 0 = vA u 99 (drw z i / 64 % vA s 96 2) := by rw [← mv0 (n := vA s 96 2) hG0 hG1, o.1]
          have vl : (wnV R B (vA s 96 2) z (mv s 98 0 (vA s 96 2), vA s 98 32) i.toNat).1 (drw z i / 8 % vA s 96 2) (2 + drw z i / 64 % 4) = vA u 99 (8 + 4 * (drw z i / 8 % vA s 96 2) + drw z i / 64 % 4) := by rw [← mv2 (n := vA s 96 2) hC0 hC1 hW0 hW1, o.1]
          have v1 : (wnV R B (vA s 96 2) z (mv s 98 0 (vA s 96 2), vA s 98 32) i.toNat).1 (drw z i / 8 % vA s 96 2) 1 = vA u 99 (4 + drw z i / 8 % vA s 96 2) := by rw [← mv1 (n := vA s 96 2) hC0 hC1, o.1]
          have uc := mcu.2.2.1 (drw z i / 8 % vA s 96 2) hC0 (by omega)
          have ug := mcu.2.2.1 (drw z i / 64 % vA s 96 2) hG0 (by omega)
          have lin := (q1 _ hC0 hC1).2.2.2
          have tr : ∀ {t V h}, MOpH u t 99 (vA s 96 2) V h → MOpH (B99 s) t 99 (vA s 96 2) V h := fun g => o.trans g
          have st := wnV_s (R := R) (B := B) (n := vA s 96 2) (z := z) (p := (mv s 98 0 (vA s 96 2), vA s 98 32)) hi
          refine Gs_iload p197_54 rfl rfl ?_
          refine Gs_iload_n p197_56 rfl rfl ?_
          refine Gs_icmp_ge (tgt := 223) p197_57 (by rfl) (by first | assumption | exact ⟨by omega, by omega⟩ | (split <;> exact ⟨by omega, by omega⟩)) (by first | assumption | exact ⟨by omega, by omega⟩ | (split <;> exact ⟨by omega, by omega⟩)) (fun hc57 => absurd ‹_› (by first | omega | assumption)) (fun hc57 => ?_)
          refine Gs_ldc2 (z := (7919)) p197_60 (by decide) ?_
          refine Gs_iload_n p197_63 rfl rfl ?_
          refine Gs_i2l p197_64 (by first | assumption | exact ⟨by omega, by omega⟩ | (split <;> exact ⟨by omega, by omega⟩)) ?_
          refine Gs_lmul p197_65 ?_
          refine Gs_ldc2 (z := (6151)) p197_66 (by decide) ?_
          refine Gs_iload p197_69 rfl rfl ?_
          refine Gs_i2l p197_71 (by first | assumption | exact ⟨by omega, by omega⟩ | (split <;> exact ⟨by omega, by omega⟩)) ?_
          refine Gs_lmul p197_72 ?_
          refine Gs_ladd p197_73 ?_
          refine Gs_lconst (z := 1) p197_74 (by decide) ?_
          refine Gs_ladd p197_75 ?_
          refine Gs_lst5 p197_76 (by first | rfl | assumption) ?_
          refine Gs_lload p197_78 rfl rfl ?_
          refine Gs_lload p197_80 rfl rfl ?_
          refine Gs_lmul p197_82 ?_
          refine Gs_ldc2 (z := (65521)) p197_83 (by decide) ?_
          refine Gs_lrem p197_86 hxx.1 hxx.2 (by omega) (by omega) ?_
          refine Gs_l2i p197_87 ?_
          refine Gs_top (drw z i) rfl ?_
          refine Gs_ist7 p197_88 (by first | rfl | assumption) ?_
          refine Gs_iload p197_90 rfl rfl ?_
          refine Gs_bipush p197_92 (by decide) ?_
          refine Gs_irem p197_94 (by omega) (by omega) (by omega) (by omega) ?_
          refine Gs_ist8 p197_95 (by first | rfl | assumption) ?_
          refine Gs_iload p197_97 rfl rfl ?_
          refine Gs_bipush p197_99 (by decide) ?_
          refine Gs_idiv p197_101 (by omega) (by omega) (by omega) (by omega) ?_
          refine Gs_aload_n p197_102 rfl rfl ?_
          refine Gs_getR p197_103 (by first | rfl | assumption | exact (show isTale _ from by assumption).1 | exact (show isCamp _ _ from by assumption).1 | exact (show isRow _ _ from by assumption).1) (by rfl) ?_
          refine Gs_iconst p197_106 ?_
          refine Gs_iald p197_107 (by first | rfl | assumption | exact (show isTale _ from by assumption).1 | exact (show isCamp _ _ from by assumption).1 | exact (show isRow _ _ from by assumption).1) (by omega) (by omega) (by omega) ?_
          rw [e96]
          refine Gs_irem p197_108 (by omega) (by omega) (by omega) (by omega) ?_
          refine Gs_ist9 p197_109 (by first | rfl | assumption) ?_
          refine Gs_iload p197_111 rfl rfl ?_
          refine Gs_bipush p197_113 (by decide) ?_
          refine Gs_idiv p197_115 (by omega) (by omega) (by omega) (by omega) ?_
          refine Gs_aload_n p197_116 rfl rfl ?_
          refine Gs_getR p197_117 (by first | rfl | assumption | exact (show isTale _ from by assumption).1 | exact (show isCamp _ _ from by assumption).1 | exact (show isRow _ _ from by assumption).1) (by rfl) ?_
          refine Gs_iconst p197_120 ?_
          refine Gs_iald p197_121 (by first | rfl | assumption | exact (show isTale _ from by assumption).1 | exact (show isCamp _ _ from by assumption).1 | exact (show isRow _ _ from by assumption).1) (by omega) (by omega) (by omega) ?_
          rw [e96]
          refine Gs_irem p197_122 (by omega) (by omega) (by omega) (by omega) ?_
          refine Gs_ist10 p197_123 (by first | rfl | assumption) ?_
          refine Gs_iload p197_125 rfl rfl ?_
          refine Gs_bipush p197_127 (by decide) ?_
          refine Gs_idiv p197_129 (by omega) (by omega) (by omega) (by omega) ?_
          refine Gs_iconst p197_130 ?_
          refine Gs_irem p197_131 (by omega) (by omega) (by omega) (by omega) ?_
          refine Gs_ist11 p197_132 (by first | rfl | assumption) ?_
          refine Gs_iload p197_134 rfl rfl ?_
          refine Gs_iconst p197_136 ?_
          refine Gs_icmp_le (tgt := 151) p197_137 (by rfl) (by first | assumption | exact ⟨by omega, by omega⟩ | (split <;> exact ⟨by omega, by omega⟩)) (by first | assumption | exact ⟨by omega, by omega⟩ | (split <;> exact ⟨by omega, by omega⟩)) (fun h137 => ?_) (fun h137 => ?_)
          · refine Gs_iload p197_151 rfl rfl ?_
            refine Gs_iconst p197_153 ?_
            refine Gs_icmp_ne (tgt := 185) p197_154 (by rfl) (by first | assumption | exact ⟨by omega, by omega⟩ | (split <;> exact ⟨by omega, by omega⟩)) (by first | assumption | exact ⟨by omega, by omega⟩ | (split <;> exact ⟨by omega, by omega⟩)) (fun h154 => ?_) (fun h154 => ?_)
            · refine Gs_iload p197_185 rfl rfl ?_
              refine Gs_iconst p197_187 ?_
              refine Gs_icmp_ge (tgt := 217) p197_188 (by rfl) (by first | assumption | exact ⟨by omega, by omega⟩ | (split <;> exact ⟨by omega, by omega⟩)) (by first | assumption | exact ⟨by omega, by omega⟩ | (split <;> exact ⟨by omega, by omega⟩)) (fun h188 => ?_) (fun h188 => ?_)
              · refine Gs_iinc4 (b54 := none) p197_217 (by first | rfl | assumption) ?_
                refine Gs_goto (tgt := 54) p197_220 (by rfl) ?_
                first
                  | exact ih _ _ _ _ _ _ _ _ o2
                  | (have o3 := tr h214.h
                     rw [o.1, o.2.2.2.1, bhM_cong e96, hBf _ _ (by rw [← v1]; exact (lin (by omega)).1) (by rw [← v1]; exact (lin (by omega)).2) hW0 hW1] at o3
                     refine ih _ _ _ _ _ _ _ _ ?_
                     rw [st, metV_f (by omega) (by rw [v0, vl]; omega), v1]
                     exact o3)
                  | (refine ih _ _ _ _ _ _ _ _ ?_
                     rw [st]
                     first
                     | (rw [metV_n5 (by omega) (by rw [v0, vg]; omega)]; exact o)
                     | (rw [metV_n5 (by omega) (by rw [v0, vg]; intro hq; refine h168 ⟨?_, by omega, by omega⟩; intro e; rw [e] at hq; omega)]; exact o)
                     | (rw [metV_n4 (by omega) (by rw [v0, vl]; omega)]; exact o))
              · refine Gs_aload_n p197_191 rfl rfl ?_
                refine Gs_getR p197_192 (by first | rfl | assumption | exact (show isTale _ from by assumption).1 | exact (show isCamp _ _ from by assumption).1 | exact (show isRow _ _ from by assumption).1) (by rfl) ?_
                refine Gs_iload p197_195 rfl rfl ?_
                refine Gs_iload p197_197 rfl rfl ?_
                refine Gs_callS3I p197_199 (by rfl) (Nat.le_of_ble_eq_true rfl) (by decide) (c_mayPut isA99 mcu hC0 hC1 (by omega) hW0 hW1) (by omega) ?_
                refine Gs_ifb_eq (tgt := 217) p197_202 (by rfl) (fun h202 => ?_) (fun h202 => ?_)
                · refine Gs_iinc4 (b54 := none) p197_217 (by first | rfl | assumption) ?_
                  refine Gs_goto (tgt := 54) p197_220 (by rfl) ?_
                  first
                    | exact ih _ _ _ _ _ _ _ _ o2
                    | (have o3 := tr h214.h
                       rw [o.1, o.2.2.2.1, bhM_cong e96, hBf _ _ (by rw [← v1]; exact (lin (by omega)).1) (by rw [← v1]; exact (lin (by omega)).2) hW0 hW1] at o3
                       refine ih _ _ _ _ _ _ _ _ ?_
                       rw [st, metV_f (by omega) (by rw [v0, vl]; omega), v1]
                       exact o3)
                    | (refine ih _ _ _ _ _ _ _ _ ?_
                       rw [st]
                       first
                       | (rw [metV_n5 (by omega) (by rw [v0, vg]; omega)]; exact o)
                       | (rw [metV_n5 (by omega) (by rw [v0, vg]; intro hq; refine h168 ⟨?_, by omega, by omega⟩; intro e; rw [e] at hq; omega)]; exact o)
                       | (rw [metV_n4 (by omega) (by rw [v0, vl]; omega)]; exact o))
                · refine Gs_aload_n p197_205 rfl rfl ?_
                  refine Gs_aload_n p197_206 rfl rfl ?_
                  refine Gs_getR p197_207 (by first | rfl | assumption | exact (show isTale _ from by assumption).1 | exact (show isCamp _ _ from by assumption).1 | exact (show isRow _ _ from by assumption).1) (by rfl) ?_
                  refine Gs_iload p197_210 rfl rfl ?_
                  refine Gs_iload p197_212 rfl rfl ?_
                  refine Gs_callV3v p197_214 (by rfl) (by rfl) (by rfl) (Nat.le_of_ble_eq_true rfl) (by decide) (c_puts isA99 mcu hC0 hC1 (by omega) hW0 hW1 (by decide) hT' (fun _ => by rw [e96, hL2, ← v1]; exact lin (by rw [v0]; omega))) (by omega) (fun s214 h214 => ?_)
                  refine Gs_iinc4 (b54 := none) p197_217 (by first | rfl | assumption) ?_
                  refine Gs_goto (tgt := 54) p197_220 (by rfl) ?_
                  first
                    | exact ih _ _ _ _ _ _ _ _ o2
                    | (have o3 := tr h214.h
                       rw [o.1, o.2.2.2.1, bhM_cong e96, hBf _ _ (by rw [← v1]; exact (lin (by omega)).1) (by rw [← v1]; exact (lin (by omega)).2) hW0 hW1] at o3
                       refine ih _ _ _ _ _ _ _ _ ?_
                       rw [st, metV_f (by omega) (by rw [v0, vl]; omega), v1]
                       exact o3)
                    | (refine ih _ _ _ _ _ _ _ _ ?_
                       rw [st]
                       first
                       | (rw [metV_n5 (by omega) (by rw [v0, vg]; omega)]; exact o)
                       | (rw [metV_n5 (by omega) (by rw [v0, vg]; intro hq; refine h168 ⟨?_, by omega, by omega⟩; intro e; rw [e] at hq; omega)]; exact o)
                       | (rw [metV_n4 (by omega) (by rw [v0, vl]; omega)]; exact o))
            · refine Gs_aload_n p197_157 rfl rfl ?_
              refine Gs_getR p197_158 (by first | rfl | assumption | exact (show isTale _ from by assumption).1 | exact (show isCamp _ _ from by assumption).1 | exact (show isRow _ _ from by assumption).1) (by rfl) ?_
              refine Gs_iload p197_161 rfl rfl ?_
              refine Gs_iload p197_163 rfl rfl ?_
              refine Gs_callS3I p197_165 (by rfl) (Nat.le_of_ble_eq_true rfl) (by decide) (c_mayLight isA99 mcu (by omega) hC0 hC1 hG0 hG1) (by omega) ?_
              refine Gs_ifb_eq (tgt := 185) p197_168 (by rfl) (fun h168 => ?_) (fun h168 => ?_)
              · refine Gs_iload p197_185 rfl rfl ?_
                refine Gs_iconst p197_187 ?_
                refine Gs_icmp_ge (tgt := 217) p197_188 (by rfl) (by first | assumption | exact ⟨by omega, by omega⟩ | (split <;> exact ⟨by omega, by omega⟩)) (by first | assumption | exact ⟨by omega, by omega⟩ | (split <;> exact ⟨by omega, by omega⟩)) (fun h188 => ?_) (fun h188 => ?_)
                · refine Gs_iinc4 (b54 := none) p197_217 (by first | rfl | assumption) ?_
                  refine Gs_goto (tgt := 54) p197_220 (by rfl) ?_
                  first
                    | exact ih _ _ _ _ _ _ _ _ o2
                    | (have o3 := tr h214.h
                       rw [o.1, o.2.2.2.1, bhM_cong e96, hBf _ _ (by rw [← v1]; exact (lin (by omega)).1) (by rw [← v1]; exact (lin (by omega)).2) hW0 hW1] at o3
                       refine ih _ _ _ _ _ _ _ _ ?_
                       rw [st, metV_f (by omega) (by rw [v0, vl]; omega), v1]
                       exact o3)
                    | (refine ih _ _ _ _ _ _ _ _ ?_
                       rw [st]
                       first
                       | (rw [metV_n5 (by omega) (by rw [v0, vg]; omega)]; exact o)
                       | (rw [metV_n5 (by omega) (by rw [v0, vg]; intro hq; refine h168 ⟨?_, by omega, by omega⟩; intro e; rw [e] at hq; omega)]; exact o)
                       | (rw [metV_n4 (by omega) (by rw [v0, vl]; omega)]; exact o))
                · refine Gs_aload_n p197_191 rfl rfl ?_
                  refine Gs_getR p197_192 (by first | rfl | assumption | exact (show isTale _ from by assumption).1 | exact (show isCamp _ _ from by assumption).1 | exact (show isRow _ _ from by assumption).1) (by rfl) ?_
                  refine Gs_iload p197_195 rfl rfl ?_
                  refine Gs_iload p197_197 rfl rfl ?_
                  refine Gs_callS3I p197_199 (by rfl) (Nat.le_of_ble_eq_true rfl) (by decide) (c_mayPut isA99 mcu hC0 hC1 (by omega) hW0 hW1) (by omega) ?_
                  refine Gs_ifb_eq (tgt := 217) p197_202 (by rfl) (fun h202 => ?_) (fun h202 => ?_)
                  · refine Gs_iinc4 (b54 := none) p197_217 (by first | rfl | assumption) ?_
                    refine Gs_goto (tgt := 54) p197_220 (by rfl) ?_
                    first
                      | exact ih _ _ _ _ _ _ _ _ o2
                      | (have o3 := tr h214.h
                         rw [o.1, o.2.2.2.1, bhM_cong e96, hBf _ _ (by rw [← v1]; exact (lin (by omega)).1) (by rw [← v1]; exact (lin (by omega)).2) hW0 hW1] at o3
                         refine ih _ _ _ _ _ _ _ _ ?_
                         rw [st, metV_f (by omega) (by rw [v0, vl]; omega), v1]
                         exact o3)
                      | (refine ih _ _ _ _ _ _ _ _ ?_
                         rw [st]
                         first
                         | (rw [metV_n5 (by omega) (by rw [v0, vg]; omega)]; exact o)
                         | (rw [metV_n5 (by omega) (by rw [v0, vg]; intro hq; refine h168 ⟨?_, by omega, by omega⟩; intro e; rw [e] at hq; omega)]; exact o)
                         | (rw [metV_n4 (by omega) (by rw [v0, vl]; omega)]; exact o))
                  · refine Gs_aload_n p197_205 rfl rfl ?_
                    refine Gs_aload_n p197_206 rfl rfl ?_
                    refine Gs_getR p197_207 (by first | rfl | assumption | exact (show isTale _ from by assumption).1 | exact (show isCamp _ _ from by assumption).1 | exact (show isRow _ _ from by assumption).1) (by rfl) ?_
                    refine Gs_iload p197_210 rfl rfl ?_
                    refine Gs_iload p197_212 rfl rfl ?_
                    refine Gs_callV3v p197_214 (by rfl) (by rfl) (by rfl) (Nat.le_of_ble_eq_true rfl) (by decide) (c_puts isA99 mcu hC0 hC1 (by omega) hW0 hW1 (by decide) hT' (fun _ => by rw [e96, hL2, ← v1]; exact lin (by rw [v0]; omega))) (by omega) (fun s214 h214 => ?_)
                    refine Gs_iinc4 (b54 := none) p197_217 (by first | rfl | assumption) ?_
                    refine Gs_goto (tgt := 54) p197_220 (by rfl) ?_
                    first
                      | exact ih _ _ _ _ _ _ _ _ o2
                      | (have o3 := tr h214.h
                         rw [o.1, o.2.2.2.1, bhM_cong e96, hBf _ _ (by rw [← v1]; exact (lin (by omega)).1) (by rw [← v1]; exact (lin (by omega)).2) hW0 hW1] at o3
                         refine ih _ _ _ _ _ _ _ _ ?_
                         rw [st, metV_f (by omega) (by rw [v0, vl]; omega), v1]
                         exact o3)
                      | (refine ih _ _ _ _ _ _ _ _ ?_
                         rw [st]
                         first
                         | (rw [metV_n5 (by omega) (by rw [v0, vg]; omega)]; exact o)
                         | (rw [metV_n5 (by omega) (by rw [v0, vg]; intro hq; refine h168 ⟨?_, by omega, by omega⟩; intro e; rw [e] at hq; omega)]; exact o)
                         | (rw [metV_n4 (by omega) (by rw [v0, vl]; omega)]; exact o))
              · refine Gs_aload_n p197_171 rfl rfl ?_
                refine Gs_getR p197_172 (by first | rfl | assumption | exact (show isTale _ from by assumption).1 | exact (show isCamp _ _ from by assumption).1 | exact (show isRow _ _ from by assumption).1) (by rfl) ?_
                refine Gs_iload p197_175 rfl rfl ?_
                refine Gs_iload p197_177 rfl rfl ?_
                refine Gs_callS3v p197_179 (by rfl) (Nat.le_of_ble_eq_true rfl) (by decide) (c_lights isA99 mcu (by omega) hC0 hC1 hG0 hG1) (by omega) (fun s179 h179 => ?_)
                have o2 := tr h179.h
                rw [o.1, o.2.2.2.1] at o2
                have mk := metV_k (R := R) (B := B) (n := vA s 96 2) (p := (wnV R B (vA s 96 2) z (mv s 98 0 (vA s 96 2), vA s 98 32)) i.toNat) (show drw z i % 8 = 5 by omega) (by rw [v0, vg]; omega)
                rw [show kinV (wnV R B (vA s 96 2) z (mv s 98 0 (vA s 96 2), vA s 98 32) i.toNat).1 (drw z i / 8 % vA s 96 2) (drw z i / 64 % vA s 96 2) = (metV R B (vA s 96 2) (drw z i) (wnV R B (vA s 96 2) z (mv s 98 0 (vA s 96 2), vA s 98 32) i.toNat)).1 by rw [mk], ← st] at o2
                have e2 : (wnV R B (vA s 96 2) z (mv s 98 0 (vA s 96 2), vA s 98 32) i.toNat).2 = (wnV R B (vA s 96 2) z (mv s 98 0 (vA s 96 2), vA s 98 32) (i + 1).toNat).2 := by rw [st, mk]
                rw [e2] at o2
                refine Gs_goto (tgt := 217) p197_182 (by rfl) ?_
                refine Gs_iinc4 (b54 := none) p197_217 (by first | rfl | assumption) ?_
                refine Gs_goto (tgt := 54) p197_220 (by rfl) ?_
                first
                  | exact ih _ _ _ _ _ _ _ _ o2
                  | (have o3 := tr h214.h
                     rw [o.1, o.2.2.2.1, bhM_cong e96, hBf _ _ (by rw [← v1]; exact (lin (by omega)).1) (by rw [← v1]; exact (lin (by omega)).2) hW0 hW1] at o3
                     refine ih _ _ _ _ _ _ _ _ ?_
                     rw [st, metV_f (by omega) (by rw [v0, vl]; omega), v1]
                     exact o3)
                  | (refine ih _ _ _ _ _ _ _ _ ?_
                     rw [st]
                     first
                     | (rw [metV_n5 (by omega) (by rw [v0, vg]; omega)]; exact o)
                     | (rw [metV_n5 (by omega) (by rw [v0, vg]; intro hq; refine h168 ⟨?_, by omega, by omega⟩; intro e; rw [e] at hq; omega)]; exact o)
                     | (rw [metV_n4 (by omega) (by rw [v0, vl]; omega)]; exact o))
          · refine Gs_aload_n p197_140 rfl rfl ?_
            refine Gs_aload_n p197_141 rfl rfl ?_
            refine Gs_getR p197_142 (by first | rfl | assumption | exact (show isTale _ from by assumption).1 | exact (show isCamp _ _ from by assumption).1 | exact (show isRow _ _ from by assumption).1) (by rfl) ?_
            refine Gs_callV1v p197_145 (by rfl) (by rfl) (by rfl) (Nat.le_of_ble_eq_true rfl) (by decide) (c_hourGoes isA99 hT' (by rw [e96]; exact mcu) (by decide) (by rw [o.2.2.2.1]; omega)) (by omega) (fun s145 h145 => ?_)
            have q2 := h145
            rw [e96, eR, o.1, o.2.2.2.1] at q2
            have o2 := tr q2
            rw [show (burnV (wnV R B (vA s 96 2) z (mv s 98 0 (vA s 96 2), vA s 98 32) i.toNat).1 (R (wnV R B (vA s 96 2) z (mv s 98 0 (vA s 96 2), vA s 98 32) i.toNat).2) (vA s 96 2)) = (metV R B (vA s 96 2) (drw z i) (wnV R B (vA s 96 2) z (mv s 98 0 (vA s 96 2), vA s 98 32) i.toNat)).1 by rw [metV_h (by omega)], show (wnV R B (vA s 96 2) z (mv s 98 0 (vA s 96 2), vA s 98 32) i.toNat).2 + 1 = (metV R B (vA s 96 2) (drw z i) (wnV R B (vA s 96 2) z (mv s 98 0 (vA s 96 2), vA s 98 32) i.toNat)).2 by rw [metV_h (by omega)], ← st] at o2
            refine Gs_goto (tgt := 217) p197_148 (by rfl) ?_
            refine Gs_iinc4 (b54 := none) p197_217 (by first | rfl | assumption) ?_
            refine Gs_goto (tgt := 54) p197_220 (by rfl) ?_
            first
              | exact ih _ _ _ _ _ _ _ _ o2
              | (have o3 := tr h214.h
                 rw [o.1, o.2.2.2.1, bhM_cong e96, hBf _ _ (by rw [← v1]; exact (lin (by omega)).1) (by rw [← v1]; exact (lin (by omega)).2) hW0 hW1] at o3
                 refine ih _ _ _ _ _ _ _ _ ?_
                 rw [st, metV_f (by omega) (by rw [v0, vl]; omega), v1]
                 exact o3)
              | (refine ih _ _ _ _ _ _ _ _ ?_
                 rw [st]
                 first
                 | (rw [metV_n5 (by omega) (by rw [v0, vg]; omega)]; exact o)
                 | (rw [metV_n5 (by omega) (by rw [v0, vg]; intro hq; refine h168 ⟨?_, by omega, by omega⟩; intro e; rw [e] at hq; omega)]; exact o)
                 | (rw [metV_n4 (by omega) (by rw [v0, vl]; omega)]; exact o))
        · show ∀ (u : St) (b5 b6 b7 b8 b9 b10 b11 : Option Value), MOpH (B99 s) u 99 (vA s 96 2) (wnV R B (vA s 96 2) z (mv s 98 0 (vA s 96 2), vA s 98 32) (v).toNat).1 (wnV R B (vA s 96 2) z (mv s 98 0 (vA s 96 2), vA s 98 32) (v).toNat).2 → Gs X d 197 54 [some (.ref 95), some (.int (iI z)), some (.int (iI v)), some (.int (iI what)), some (.int (iI (v))), b5, b6, b7, b8, b9, b10, b11] [] (u) _
          intro u b5 b6 b7 b8 b9 b10 b11 o
          have e96 : ∀ z, vA u 96 z = vA s 96 z := fun z => (o.2.1 96 z (by decide)).trans (b99_A (by decide) z)
          have mcu : MC u 99 (vA s 96 2) := MC.of o (gw v.toNat (by omega)).1 (by omega) (by omega) (by have := (gw v.toNat (by omega)).2.1; dsimp only at this; omega) (by have := (gw v.toNat (by omega)).2.2; dsimp only at this; omega) hzr
          obtain ⟨q1, q2, q3⟩ := gw v.toNat (by omega)
          dsimp only at q2 q3
          have e98 : ∀ z, vA u 98 z = vA s 98 z := fun z => (o.2.1 98 z (by decide)).trans (b99_A (by decide) z)
          have R98 := ((MOp.refl s 98 (vA s 96 2)).h).tds (by omega) (by omega) (fun k c0 c1 => (hz k c0 c1).2)
          refine Gs_iload p197_54 rfl rfl ?_
          refine Gs_iload_n p197_56 rfl rfl ?_
          refine Gs_icmp_ge (tgt := 223) p197_57 (by rfl) (by first | assumption | exact ⟨by omega, by omega⟩ | (split <;> exact ⟨by omega, by omega⟩)) (by first | assumption | exact ⟨by omega, by omega⟩ | (split <;> exact ⟨by omega, by omega⟩)) (fun hc57 => ?_) (fun hc57 => absurd ‹_› (by first | omega | assumption))
          refine Gs_iload_n p197_223 rfl rfl ?_
          refine Gs_if_ne (tgt := 238) p197_224 (by rfl) (by first | assumption | exact ⟨by omega, by omega⟩ | (split <;> exact ⟨by omega, by omega⟩)) (fun h224 => ?_) (fun h224 => ?_)
          · refine Gs_aload_n p197_238 rfl rfl ?_
            refine Gs_getR p197_239 (by first | rfl | assumption | exact (show isTale _ from by assumption).1 | exact (show isCamp _ _ from by assumption).1 | exact (show isRow _ _ from by assumption).1) (by rfl) ?_
            refine Gs_callS1I p197_242 (by rfl) (Nat.le_of_ble_eq_true rfl) (by decide) (c_toldIn rfl) (by omega) ?_
            refine Gs_aload_n p197_245 rfl rfl ?_
            refine Gs_getR p197_246 (by first | rfl | assumption | exact (show isTale _ from by assumption).1 | exact (show isCamp _ _ from by assumption).1 | exact (show isRow _ _ from by assumption).1) (by rfl) ?_
            refine Gs_callS1I p197_249 (by rfl) (Nat.le_of_ble_eq_true rfl) (by decide) (c_toldIn rfl) (by omega) ?_
            refine Gs_isub p197_252 ?_
            refine Gs_iret p197_253 rfl ⟨_, rfl, ?_⟩
            first
              | (refine ⟨?_, o⟩; rw [if_pos (by omega)]; exact o.ins (by omega) (by omega) hzr)
              | (refine ⟨?_, o⟩
                 rw [if_neg (by omega), o.tds (by omega) (by omega) hz7, ← R98]
                 simp only [e98])
          · refine Gs_aload_n p197_227 rfl rfl ?_
            refine Gs_aload_n p197_228 rfl rfl ?_
            refine Gs_getR p197_229 (by first | rfl | assumption | exact (show isTale _ from by assumption).1 | exact (show isCamp _ _ from by assumption).1 | exact (show isRow _ _ from by assumption).1) (by rfl) ?_
            refine Gs_callV1I p197_232 (by rfl) (by rfl) (by first | rfl | assumption | exact (show isTale _ from by assumption).1 | exact (show isCamp _ _ from by assumption).1 | exact (show isRow _ _ from by assumption).1) (Nat.le_of_ble_eq_true rfl) (by decide) (c_insOf isA99 mcu) (by omega) ?_
            refine Gs_goto (tgt := 253) p197_235 (by rfl) ?_
            refine Gs_iret p197_253 rfl ⟨_, rfl, ?_⟩
            first
              | (refine ⟨?_, o⟩; rw [if_pos (by omega)]; exact o.ins (by omega) (by omega) hzr)
              | (refine ⟨?_, o⟩
                 rw [if_neg (by omega), o.tds (by omega) (by omega) hz7, ← R98]
                 simp only [e98])
      · refine Gs_iconst p197_34 ?_
        refine Gs_iret p197_35 rfl ⟨_, rfl, ?_⟩
        exfalso; omega

set_option maxHeartbeats 1000000 in
set_option maxRecDepth 4000 in
theorem m_winter_no {X : vX} {s : St} {z v what : Int} (gz : rg z) (gv : rg v) (gw : rg what) (hno : ¬ ((0 ≤ z ∧ z ≤ 9999) ∧ (1 ≤ v ∧ v ≤ 60) ∧ (0 ≤ what ∧ what ≤ 1))) : OkI X 4 197 [.ref 95, .int (iI z), .int (iI v), .int (iI what)] s (Is1 (-1) s) := by
  refine Ok.of (r := vm_m197) (ls := [some (.ref 95), some (.int (iI z)), some (.int (iI v)), some (.int (iI what)), none, none, none, none, none, none, none, none]) rfl (Nat.le_of_ble_eq_true rfl) rfl (fun d hd => ?_)
  refine Gs_iload_n p197_0 rfl rfl ?_
  refine Gs_i2l p197_1 (by first | assumption | exact ⟨by omega, by omega⟩ | (split <;> exact ⟨by omega, by omega⟩)) ?_
  refine Gs_lconst (z := 0) p197_2 (by decide) ?_
  refine Gs_ldc2 (z := (9999)) p197_3 (by decide) ?_
  refine Gs_callS3I p197_6 (by rfl) (Nat.le_of_ble_eq_true rfl) (by decide) (c_in (rg_L gz) ⟨by omega, by omega⟩ ⟨by omega, by omega⟩) (by omega) ?_
  refine Gs_ifb_eq (tgt := 34) p197_9 (by rfl) (fun h9 => ?_) (fun h9 => ?_)
  · refine Gs_iconst p197_34 ?_
    refine Gs_iret p197_35 rfl ⟨_, rfl, ?_⟩
    exact ⟨rfl, rfl⟩
  · refine Gs_iload_n p197_12 rfl rfl ?_
    refine Gs_i2l p197_13 (by first | assumption | exact ⟨by omega, by omega⟩ | (split <;> exact ⟨by omega, by omega⟩)) ?_
    refine Gs_lconst (z := 1) p197_14 (by decide) ?_
    refine Gs_ldc2 (z := (60)) p197_15 (by decide) ?_
    refine Gs_callS3I p197_18 (by rfl) (Nat.le_of_ble_eq_true rfl) (by decide) (c_in (rg_L gv) ⟨by omega, by omega⟩ ⟨by omega, by omega⟩) (by omega) ?_
    refine Gs_ifb_eq (tgt := 34) p197_21 (by rfl) (fun h21 => ?_) (fun h21 => ?_)
    · refine Gs_iconst p197_34 ?_
      refine Gs_iret p197_35 rfl ⟨_, rfl, ?_⟩
      exact ⟨rfl, rfl⟩
    · refine Gs_iload_n p197_24 rfl rfl ?_
      refine Gs_i2l p197_25 (by first | assumption | exact ⟨by omega, by omega⟩ | (split <;> exact ⟨by omega, by omega⟩)) ?_
      refine Gs_lconst (z := 0) p197_26 (by decide) ?_
      refine Gs_lconst (z := 1) p197_27 (by decide) ?_
      refine Gs_callS3I p197_28 (by rfl) (Nat.le_of_ble_eq_true rfl) (by decide) (c_in (rg_L gw) ⟨by omega, by omega⟩ ⟨by omega, by omega⟩) (by omega) ?_
      refine Gs_ifb_ne (tgt := 36) p197_31 (by rfl) (fun h31 => ?_) (fun h31 => ?_)
      · exfalso; omega
      · refine Gs_iconst p197_34 ?_
        refine Gs_iret p197_35 rfl ⟨_, rfl, ?_⟩
        exact ⟨rfl, rfl⟩

theorem T_winter {X : vX} {K : Int} {s : St} (hR : Rel K s) (hK : K < 512) {x1 x2 x3 : Int} (g1 : rg x1) (g2 : rg x2) (g3 : rg x3) : Both X K s 117 197 [.int (iI x1), .int (iI x2), .int (iI x3)] := by
  obtain ⟨h0, h1, h2, h3, h4, h5, h6⟩ := id hR
  have hMT := hR.MT
  by_cases c : (0 ≤ x1 ∧ x1 ≤ 9999) ∧ (1 ≤ x2 ∧ x2 ≤ 60) ∧ (0 ≤ x3 ∧ x3 ≤ 1)
  · obtain ⟨⟨z0, z1⟩, ⟨v0, v1⟩, w0, w1⟩ := c
    have hn := h4.1.2.1
    have hn1 : 1 ≤ vA s 96 2 := h3.2.2.2.2.2.2.1
    have hh := h4.1.2.2.2.1
    have hh2 := h4.2.2.1
    have hL : vF s 5 4 ≤ 9 := h3.1.2.1
    have hB : ∀ l w, bhI s 5 l w = -4 ∨ (0 ≤ bhI s 5 l w ∧ bhI s 5 l w < vF s 5 4) := fun l w => by
      by_cases e : bhI s 5 l w = -4
      · exact Or.inl e
      · exact Or.inr (h3.bh_line e)
    have hz0 : ∀ k, vA s 96 2 ≤ k → k < 4 → vA s 98 k = 0 ∧ vA s 98 (28 + k) = 0 := fun k c0 c1 => by
      have := h4.2.2.2.2.2 k c0 c1
      rw [Int.zero_add] at this
      exact ⟨this.1, by have := this.2.1; rw [Int.zero_add] at this; exact this⟩
    have gt := h4.good.wn (p := (cv s 14 (vA s 96 2), vF s 14 2)) (R := rnI s 5) (B := bhI s 5) (z := x1) hn1 (fun x => (rnI_b h3.1 x).1) hB hL (by omega) x2.toNat (by omega)
    have hmv : mv s 98 0 (vA s 96 2) = cv s 14 (vA s 96 2) := h4.tab.symm
    have e32 : vA s 98 32 = vF s 14 2 := h4.2.1.symm
    refine Both.of (D := 6) (D' := 4) (P' := fun y t y' t' => y' = (if x3 = 0 then sm (inV (wnV (rnI s 5) (bhI s 5) (vA s 96 2) x1 (cv s 14 (vA s 96 2), vF s 14 2) x2.toNat).1) (vA s 96 2) else sm (tdV (wnV (rnI s 5) (bhI s 5) (vA s 96 2) x1 (cv s 14 (vA s 96 2), vF s 14 2) x2.toNat).1) (vA s 96 2) - sm (tdV (cv s 14 (vA s 96 2))) (vA s 96 2)) ∧ (∀ a z, a ≠ 99 → vA t' a z = vA t a z) ∧ (∀ a k, vF t' a k = vF t a k)) (k_winter h3.1 h4.1 hn1 h4.good hL (by omega) hB (by omega) z0 z1 v0 v1 w0 w1) (by decide) (by decide) (fun y t p => ?_) (fun y t y' t' p p' => ⟨p'.1.trans p.1.symm, ?_, ?_⟩)
    · have A : ∀ a z, a ≠ 19 → vA t a z = vA s a z := fun a z a1 => (p.2.2.1 a z a1).trans (cp17_A a1 z)
      have e96 : ∀ z, vA t 96 z = vA s 96 z := fun z => A 96 z (by omega)
      have e98 : ∀ z, vA t 98 z = vA s 98 z := fun z => A 98 z (by omega)
      have M := m_winter (X := X) (s := t) (L := vF s 5 4) (K := K) (z := x1) (v := x2) (what := x3) (R := rnI s 5) (B := bhI s 5) (hMT.cong e96) (by rw [e96]; exact h4.mc.cong e98) (by rw [e96, mv_cong e98, hmv]; exact h4.good) hL (by omega) (by funext x; rw [rnM_cong e96, h3.rn]) (fun x => (rnI_b h3.1 x).1) (fun l w b0 b1 b2 b3 => by rw [bhM_cong e96, h3.bh b0 b1 b2 b3]) (by rw [e96]; exact h3.2.2.1) hB (by rw [e98]; omega) (fun k c0 c1 => by rw [e98, e98]; exact hz0 k (by rw [e96] at c0; exact c0) c1) z0 z1 v0 v1 w0 w1
      rw [e96, mv_cong e98, hmv, e98, e32] at M
      exact M.imp (fun y' t' q => ⟨q.1, fun a z h => (q.2.2.1 a z h).trans (b99_A h z), fun a k => q.2.2.2.1 a k⟩)
    · rw [p.1]
      have b1 := sm_b (f := inV (wnV (rnI s 5) (bhI s 5) (vA s 96 2) x1 (cv s 14 (vA s 96 2), vF s 14 2) x2.toNat).1) (a := 0) (b := 1) (n := vA s 96 2) (by omega) (fun k _ _ => inV_b _ k)
      have l := lwA
      have b2 := sm_b (f := tdV (wnV (rnI s 5) (bhI s 5) (vA s 96 2) x1 (cv s 14 (vA s 96 2), vF s 14 2) x2.toNat).1) (a := 0) (b := 100000) (n := vA s 96 2) (by omega) (fun k c0 c1 => by have := (gt.1 k c0 c1).1 7 (by omega) (by omega); unfold tdV; omega)
      have b3 := sm_b (f := tdV (cv s 14 (vA s 96 2))) (a := 0) (b := 100000) (n := vA s 96 2) (by omega) (fun k c0 c1 => by have := (h4.good k c0 c1).1 7 (by omega) (by omega); unfold tdV; omega)
      split <;> exact ⟨by omega, by omega⟩
    · refine Rel_more (hR.kept ⟨fun a ha z => ?_, fun a k ha => ?_⟩)
      · rw [p'.2.1 a z (fun e => ha (by unfold scr; omega)), p.2.2.1 a z (fun e => ha (by unfold scr; omega)), cp17_A (fun e => ha (by unfold scr; omega))]
      · rw [p'.2.2 a k, p.2.2.2.1 a k (fun e => ha.1 (by unfold scr; omega)), cp17_F (fun e => ha.1 (by unfold scr; omega)) (fun e => ha.1 (by unfold scr; omega))]
  · exact Both.q hR (k_winter_no g1 g2 g3 c) (m_winter_no g1 g2 g3 c) (by decide) (by decide) rfl ⟨by omega, by omega⟩ (Kept.rfl' s)