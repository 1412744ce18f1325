/-! winter -/
def drw (z k : Int) : Int := ((7919 * z + 6151 * k + 1) * (7919 * z + 6151 * k + 1)) % 65521
theorem drw_r (z k : Int) : 0 ≤ drw z k ∧ drw z k < 65521 := ⟨Int.emod_nonneg _ (by decide), Int.emod_lt_of_pos _ (by decide)⟩
theorem drw_b {z k : Int} (z0 : 0 ≤ z) (z1 : z ≤ 9999) (k0 : 0 ≤ k) (k1 : k ≤ 60) : 0 ≤ (7919 * z + 6151 * k + 1) * (7919 * z + 6151 * k + 1) ∧ (7919 * z + 6151 * k + 1) * (7919 * z + 6151 * k + 1) < 9223372036854775808 := by
  have h0 : 0 ≤ 7919 * z + 6151 * k + 1 := by omega
  have h1 : 7919 * z + 6151 * k + 1 ≤ 100000000 := by omega
  generalize 7919 * z + 6151 * k + 1 = x at *
  have h2 : x * x ≤ 100000000 * 100000000 := Int.mul_le_mul h1 h1 h0 (by omega)
  have h3 : 0 ≤ x * x := Int.mul_nonneg h0 h0
  omega
def metV (R : Int → Int) (B : Int → Int → Int) (n dr : Int) (p : (Int → Int → Int) × Int) : (Int → Int → Int) × Int :=
  if 5 < dr % 8 then (burnV p.1 (R p.2) n, p.2 + 1)
  else if dr % 8 = 5 then (if ¬ 1 ≤ p.1 (dr / 8 % n) 0 ∧ 4 ≤ p.1 (dr / 64 % n) 0 then (kinV p.1 (dr / 8 % n) (dr / 64 % n), p.2) else p)
  else if 1 ≤ p.1 (dr / 8 % n) 0 ∧ 1 ≤ p.1 (dr / 8 % n) (2 + dr / 64 % 4) then (feedV p.1 (B (p.1 (dr / 8 % n) 1) (dr / 64 % 4)) (dr / 8 % n) (dr / 64 % 4), p.2) else p
section MET
variable {R : Int → Int} {B : Int → Int → Int} {n dr : Int} {p : (Int → Int → Int) × Int}
theorem metV_h (h : 5 < dr % 8) : metV R B n dr p = (burnV p.1 (R p.2) n, p.2 + 1) := if_pos h
theorem metV_k (h : dr % 8 = 5) (c : ¬ 1 ≤ p.1 (dr / 8 % n) 0 ∧ 4 ≤ p.1 (dr / 64 % n) 0) : metV R B n dr p = (kinV p.1 (dr / 8 % n) (dr / 64 % n), p.2) := by unfold metV; rw [if_neg (by omega), if_pos h, if_pos c]
theorem metV_f (h : dr % 8 < 5) (c : 1 ≤ p.1 (dr / 8 % n) 0 ∧ 1 ≤ p.1 (dr / 8 % n) (2 + dr / 64 % 4)) : metV R B n dr p = (feedV p.1 (B (p.1 (dr / 8 % n) 1) (dr / 64 % 4)) (dr / 8 % n) (dr / 64 % 4), p.2) := by unfold metV; rw [if_neg (by omega), if_neg (by omega), if_pos c]
theorem metV_n5 (h : dr % 8 = 5) (c : ¬ (¬ 1 ≤ p.1 (dr / 8 % n) 0 ∧ 4 ≤ p.1 (dr / 64 % n) 0)) : metV R B n dr p = p := by unfold metV; rw [if_neg (by omega), if_pos h, if_neg c]
theorem metV_n4 (h : dr % 8 < 5) (c : ¬ (1 ≤ p.1 (dr / 8 % n) 0 ∧ 1 ≤ p.1 (dr / 8 % n) (2 + dr / 64 % 4))) : metV R B n dr p = p := by unfold metV; rw [if_neg (by omega), if_neg (by omega), if_neg c]
end MET
theorem GoodV.met {R : Int → Int} {B : Int → Int → Int} {n dr L K : Int} {p : (Int → Int → Int) × Int} (g : GoodV p.1 n L K) (hn : 1 ≤ n) (hd : 0 ≤ dr) (hR : ∀ x, 0 ≤ R x) (hB : ∀ l w, B l w = -4 ∨ (0 ≤ B l w ∧ B l w < L)) (hL : L ≤ 9) (hK : K < 99999) : GoodV (metV R B n dr p).1 n L (K + 1) ∧ p.2 ≤ (metV R B n dr p).2 ∧ (metV R B n dr p).2 ≤ p.2 + 1 := by
  have c0 := Int.emod_nonneg (dr / 8) (show n ≠ 0 by omega)
  have c1 := Int.emod_lt_of_pos (dr / 8) (show 0 < n by omega)
  have d0 := Int.emod_nonneg (dr / 64) (show n ≠ 0 by omega)
  have d1 := Int.emod_lt_of_pos (dr / 64) (show 0 < n by omega)
  have up := g.up (show K ≤ K + 1 by omega)
  by_cases h : 5 < dr % 8
  · rw [metV_h h]
    exact ⟨(g.burn (hR _)).up (by omega), by show p.2 ≤ p.2 + 1; omega, by show p.2 + 1 ≤ p.2 + 1; omega⟩
  · by_cases h5 : dr % 8 = 5
    · by_cases c : ¬ 1 ≤ p.1 (dr / 8 % n) 0 ∧ 4 ≤ p.1 (dr / 64 % n) 0
      · rw [metV_k h5 c]
        refine ⟨(g.kin c0 c1 d0 d1 (fun e => ?_) c.2).up (by omega), Int.le_refl _, by show p.2 ≤ p.2 + 1; omega⟩
        rw [e] at c; omega
      · rw [metV_n5 h5 c]
        exact ⟨up, Int.le_refl _, by omega⟩
    · by_cases c : 1 ≤ p.1 (dr / 8 % n) 0 ∧ 1 ≤ p.1 (dr / 8 % n) (2 + dr / 64 % 4)
      · rw [metV_f (by omega) c]
        exact ⟨g.feed c0 c1 (by omega) (by omega) c.2 c.1 (hB _ _) hL hK, Int.le_refl _, by show p.2 ≤ p.2 + 1; omega⟩
      · rw [metV_n4 (by omega) c]
        exact ⟨up, Int.le_refl _, by omega⟩
def wnV (R : Int → Int) (B : Int → Int → Int) (n z : Int) (p : (Int → Int → Int) × Int) : Nat → (Int → Int → Int) × Int
  | 0 => p
  | k + 1 => metV R B n (drw z k) (wnV R B n z p k)
theorem wnV_s {R : Int → Int} {B : Int → Int → Int} {n z : Int} {p : (Int → Int → Int) × Int} {k : Int} (hk : 0 ≤ k) : wnV R B n z p (k + 1).toNat = metV R B n (drw z k) (wnV R B n z p k.toNat) := by
  rw [show (k + 1).toNat = k.toNat + 1 by omega]
  show metV R B n (drw z (k.toNat : Int)) _ = _
  rw [show ((k.toNat : Nat) : Int) = k by omega]
theorem GoodV.wn {R : Int → Int} {B : Int → Int → Int} {n z L K : Int} {p : (Int → Int → Int) × Int} (g : GoodV p.1 n L K) (hn : 1 ≤ n) (hR : ∀ x, 0 ≤ R x) (hB : ∀ l w, B l w = -4 ∨ (0 ≤ B l w ∧ B l w < L)) (hL : L ≤ 9) (hK : K < 9999) : ∀ k : Nat, (k : Int) ≤ 60 → GoodV (wnV R B n z p k).1 n L (K + k) ∧ p.2 ≤ (wnV R B n z p k).2 ∧ (wnV R B n z p k).2 ≤ p.2 + k := by
  intro k
  induction k with
  | zero => intro _; exact ⟨g.up (by omega), Int.le_refl _, by show p.2 ≤ p.2 + ((0 : Nat) : Int); omega⟩
  | succ k ih =>
    intro hk
    obtain ⟨i1, i2, i3⟩ := ih (by omega)
    obtain ⟨m1, m2, m3⟩ := i1.met (R := R) (B := B) (dr := drw z k) hn (drw_r _ _).1 hR hB hL (by omega)
    refine ⟨m1.up (by omega), ?_, ?_⟩
    · show p.2 ≤ (metV R B n (drw z k) (wnV R B n z p k)).2
      omega
    · show (metV R B n (drw z k) (wnV R B n z p k)).2 ≤ _
      omega
def tdV (V : Int → Int → Int) (k : Int) : Int := V k 7
theorem camp17 : isCamp 17 5 := ⟨rfl, rfl, rfl, by decide⟩
set_option maxHeartbeats 1000000 in
set_option maxRecDepth 4000 in
theorem c_draw {X : vX} {s : St} {z k : Int} (z0 : 0 ≤ z) (z1 : z ≤ 9999) (k0 : 0 ≤ k) (k1 : k ≤ 60) : OkI X 0 124 [.int (iI z), .int (iI k)] s (Is1 (drw z k) s) := by
  refine Ok.of (r := vm_m124) (ls := [some (.int (iI z)), some (.int (iI k)), none, none]) rfl (Nat.le_of_ble_eq_true rfl) rfl (fun d hd => ?_)
  have hb := drw_b z0 z1 k0 k1
  refine Gs_ldc2 (z := (7919)) p124_0 (by decide) ?_
  refine Gs_iload_n p124_3 rfl rfl ?_
  refine Gs_i2l p124_4 (by first | assumption | exact ⟨by omega, by omega⟩ | (split <;> exact ⟨by omega, by omega⟩)) ?_
  refine Gs_lmul p124_5 ?_
  refine Gs_ldc2 (z := (6151)) p124_6 (by decide) ?_
  refine Gs_iload_n p124_9 rfl rfl ?_
  refine Gs_i2l p124_10 (by first | assumption | exact ⟨by omega, by omega⟩ | (split <;> exact ⟨by omega, by omega⟩)) ?_
  refine Gs_lmul p124_11 ?_
  refine Gs_ladd p124_12 ?_
  refine Gs_lconst (z := 1) p124_13 (by decide) ?_
  refine Gs_ladd p124_14 ?_
  refine Gs_lst2 p124_15 (by first | rfl | assumption) ?_
  refine Gs_lload_n p124_16 rfl rfl ?_
  refine Gs_lload_n p124_17 rfl rfl ?_
  refine Gs_lmul p124_18 ?_
  refine Gs_ldc2 (z := (65521)) p124_19 (by decide) ?_
  refine Gs_lrem p124_22 hb.1 hb.2 (by omega) (by omega) ?_
  refine Gs_l2i p124_23 ?_
  refine Gs_iret p124_24 rfl ⟨_, rfl, ?_⟩
  exact ⟨rfl, rfl⟩

set_option maxHeartbeats 1000000 in
set_option maxRecDepth 4000 in
theorem c_meetDraw {X : vX} {s : St} {c t : Nat} {n : Int} (hc : isCamp c t) (hk : CampOk s c n) (ht : isTale t) (hT : TaleOk s t) (hct : c + 2 ≠ t + 2 ∧ c + 2 ≠ t + 4 ∧ c ≠ t + 3 ∧ c ≠ t) (hh : vF s c 2 < 90000) (hn : 1 ≤ n) (hto : ∀ k, 0 ≤ k → k < n → cg s c k 7 < 100000) {dr : Int} (d0 : 0 ≤ dr) (d1 : dr < 65521) : OkV X 4 21 [.ref c, .int (iI dr)] s (fun u => COp s u c n (metV (rnI s t) (bhI s t) n dr (cv s c n, vF s c 2)).1 (metV (rnI s t) (bhI s t) n dr (cv s c n, vF s c 2)).2) := by
  refine Ok.of (r := vm_m21) (ls := [some (.ref c), some (.int (iI dr)), none, none, none, none, none]) rfl (Nat.le_of_ble_eq_true rfl) rfl (fun d hd => ?_)
  have hy := hc.1
  have hC0 := Int.emod_nonneg (dr / 8) (show n ≠ 0 by omega)
  have hC1 := Int.emod_lt_of_pos (dr / 8) (show 0 < n by omega)
  have hG0 := Int.emod_nonneg (dr / 64) (show n ≠ 0 by omega)
  have hG1 := Int.emod_lt_of_pos (dr / 64) (show 0 < n by omega)
  have hW0 : 0 ≤ dr / 64 % 4 := by omega
  have hW1 : dr / 64 % 4 < 4 := by omega
  have hn4 := hk.2.1
  have v0 : cv s c n (dr / 8 % n) 0 = cg s c (dr / 8 % n) 0 := cv_at hC0 hC1 (by omega) (by omega)
  have vg : cv s c n (dr / 64 % n) 0 = cg s c (dr / 64 % n) 0 := cv_at hG0 hG1 (by omega) (by omega)
  have vl : cv s c n (dr / 8 % n) (2 + dr / 64 % 4) = cg s c (dr / 8 % n) (2 + dr / 64 % 4) := cv_at hC0 hC1 (by omega) (by omega)
  have v7 : cv s c n (dr / 8 % n) 7 = cg s c (dr / 8 % n) 7 := cv_at hC0 hC1 (by omega) (by omega)
  have t7 := hto _ hC0 hC1
  refine Gs_aload_n p21_0 rfl rfl ?_
  refine Gs_callV0I p21_1 (by rfl) (by rfl) (by first | rfl | assumption | exact (show isTale _ from by assumption).1 | exact (show isCamp _ _ from by assumption).1 | exact (show isRow _ _ from by assumption).1) (Nat.le_of_ble_eq_true rfl) (by decide) (c_companies hc hk) (by omega) ?_
  refine Gs_ist2 p21_4 (by first | rfl | assumption) ?_
  refine Gs_iload_n p21_5 rfl rfl ?_
  refine Gs_iconst p21_6 ?_
  refine Gs_icmp_ge (tgt := 11) p21_7 (by rfl) (by first | assumption | exact ⟨by omega, by omega⟩ | (split <;> exact ⟨by omega, by omega⟩)) (by first | assumption | exact ⟨by omega, by omega⟩ | (split <;> exact ⟨by omega, by omega⟩)) (fun h7 => ?_) (fun h7 => absurd ‹_› (by first | omega | assumption))
  refine Gs_iload_n p21_11 rfl rfl ?_
  refine Gs_bipush p21_12 (by decide) ?_
  refine Gs_irem p21_14 (by omega) (by omega) (by omega) (by omega) ?_
  refine Gs_ist3 p21_15 (by first | rfl | assumption) ?_
  refine Gs_iload_n p21_16 rfl rfl ?_
  refine Gs_bipush p21_17 (by decide) ?_
  refine Gs_idiv p21_19 (by omega) (by omega) (by omega) (by omega) ?_
  refine Gs_iload_n p21_20 rfl rfl ?_
  refine Gs_irem p21_21 (by omega) (by omega) (by omega) (by omega) ?_
  refine Gs_ist4 p21_22 (by first | rfl | assumption) ?_
  refine Gs_iload_n p21_24 rfl rfl ?_
  refine Gs_bipush p21_25 (by decide) ?_
  refine Gs_idiv p21_27 (by omega) (by omega) (by omega) (by omega) ?_
  refine Gs_iconst p21_28 ?_
  refine Gs_irem p21_29 (by omega) (by omega) (by omega) (by omega) ?_
  refine Gs_ist5 p21_30 (by first | rfl | assumption) ?_
  refine Gs_iload_n p21_32 rfl rfl ?_
  refine Gs_bipush p21_33 (by decide) ?_
  refine Gs_idiv p21_35 (by omega) (by omega) (by omega) (by omega) ?_
  refine Gs_iload_n p21_36 rfl rfl ?_
  refine Gs_irem p21_37 (by omega) (by omega) (by omega) (by omega) ?_
  refine Gs_ist6 p21_38 (by first | rfl | assumption) ?_
  refine Gs_iload_n p21_40 rfl rfl ?_
  refine Gs_bipush p21_41 (by decide) ?_
  refine Gs_icmp_lt (tgt := 53) p21_43 (by rfl) (by first | assumption | exact ⟨by omega, by omega⟩ | (split <;> exact ⟨by omega, by omega⟩)) (by first | assumption | exact ⟨by omega, by omega⟩ | (split <;> exact ⟨by omega, by omega⟩)) (fun h43 => ?_) (fun h43 => ?_)
  · refine Gs_iload_n p21_53 rfl rfl ?_
    refine Gs_iconst p21_54 ?_
    refine Gs_icmp_ne (tgt := 80) p21_55 (by rfl) (by first | assumption | exact ⟨by omega, by omega⟩ | (split <;> exact ⟨by omega, by omega⟩)) (by first | assumption | exact ⟨by omega, by omega⟩ | (split <;> exact ⟨by omega, by omega⟩)) (fun h55 => ?_) (fun h55 => ?_)
    · refine Gs_iload_n p21_80 rfl rfl ?_
      refine Gs_iconst p21_81 ?_
      refine Gs_icmp_gt (tgt := 104) p21_82 (by rfl) (by first | assumption | exact ⟨by omega, by omega⟩ | (split <;> exact ⟨by omega, by omega⟩)) (by first | assumption | exact ⟨by omega, by omega⟩ | (split <;> exact ⟨by omega, by omega⟩)) (fun h82 => ?_) (fun h82 => ?_)
      · refine Gs_vret p21_104 rfl ⟨rfl, ?_⟩
        first
          | (rw [metV_h (by omega)]; exact h47)
          | (rw [metV_k (by omega) (by dsimp only; rw [v0, vg]; assumption)]; exact h74)
          | (rw [metV_f (by omega) (by dsimp only; rw [v0, vl]; assumption)]; exact (COp.refl hk).feed hT hct.1 hct.2.1 hC0 hC1 hW0 hW1 (by rw [vl]; omega) (by rw [v7]; omega))
          | (rw [metV_n5 (by omega) (by dsimp only; rw [v0, vg]; assumption)]; exact COp.refl hk)
          | (rw [metV_n4 (by omega) (by dsimp only; rw [v0, vl]; assumption)]; exact COp.refl hk)
          | (exfalso; omega)
      · refine Gs_aload_n p21_85 rfl rfl ?_
        refine Gs_iload p21_86 rfl rfl ?_
        refine Gs_iload p21_88 rfl rfl ?_
        refine Gs_callV2I p21_90 (by rfl) (by rfl) (by first | rfl | assumption | exact (show isTale _ from by assumption).1 | exact (show isCamp _ _ from by assumption).1 | exact (show isRow _ _ from by assumption).1) (Nat.le_of_ble_eq_true rfl) (by decide) (c_canFeed hc hk hC0 hC1 hW0 hW1) (by omega) ?_
        refine Gs_ifb_eq (tgt := 104) p21_93 (by rfl) (fun h93 => ?_) (fun h93 => ?_)
        · refine Gs_vret p21_104 rfl ⟨rfl, ?_⟩
          first
            | (rw [metV_h (by omega)]; exact h47)
            | (rw [metV_k (by omega) (by dsimp only; rw [v0, vg]; assumption)]; exact h74)
            | (rw [metV_f (by omega) (by dsimp only; rw [v0, vl]; assumption)]; exact (COp.refl hk).feed hT hct.1 hct.2.1 hC0 hC1 hW0 hW1 (by rw [vl]; omega) (by rw [v7]; omega))
            | (rw [metV_n5 (by omega) (by dsimp only; rw [v0, vg]; assumption)]; exact COp.refl hk)
            | (rw [metV_n4 (by omega) (by dsimp only; rw [v0, vl]; assumption)]; exact COp.refl hk)
            | (exfalso; omega)
        · refine Gs_aload_n p21_96 rfl rfl ?_
          refine Gs_iload p21_97 rfl rfl ?_
          refine Gs_iload p21_99 rfl rfl ?_
          refine Gs_callV2W p21_101 (by rfl) (by rfl) (by first | rfl | assumption | exact (show isTale _ from by assumption).1 | exact (show isCamp _ _ from by assumption).1 | exact (show isRow _ _ from by assumption).1) (Nat.le_of_ble_eq_true rfl) (by decide) (c_feed hc hk hct.1 hct.2.1 ht hT hC0 hC1 hW0 hW1 (by omega) t7) (by omega) ?_
          refine Gs_vret p21_104 rfl ⟨rfl, ?_⟩
          first
            | (rw [metV_h (by omega)]; exact h47)
            | (rw [metV_k (by omega) (by dsimp only; rw [v0, vg]; assumption)]; exact h74)
            | (rw [metV_f (by omega) (by dsimp only; rw [v0, vl]; assumption)]; exact (COp.refl hk).feed hT hct.1 hct.2.1 hC0 hC1 hW0 hW1 (by rw [vl]; omega) (by rw [v7]; omega))
            | (rw [metV_n5 (by omega) (by dsimp only; rw [v0, vg]; assumption)]; exact COp.refl hk)
            | (rw [metV_n4 (by omega) (by dsimp only; rw [v0, vl]; assumption)]; exact COp.refl hk)
            | (exfalso; omega)
    · refine Gs_aload_n p21_58 rfl rfl ?_
      refine Gs_iload p21_59 rfl rfl ?_
      refine Gs_iload p21_61 rfl rfl ?_
      refine Gs_callV2I p21_63 (by rfl) (by rfl) (by first | rfl | assumption | exact (show isTale _ from by assumption).1 | exact (show isCamp _ _ from by assumption).1 | exact (show isRow _ _ from by assumption).1) (Nat.le_of_ble_eq_true rfl) (by decide) (c_canKindle hc hk hC0 hC1 hG0 hG1) (by omega) ?_
      refine Gs_ifb_eq (tgt := 80) p21_66 (by rfl) (fun h66 => ?_) (fun h66 => ?_)
      · refine Gs_iload_n p21_80 rfl rfl ?_
        refine Gs_iconst p21_81 ?_
        refine Gs_icmp_gt (tgt := 104) p21_82 (by rfl) (by first | assumption | exact ⟨by omega, by omega⟩ | (split <;> exact ⟨by omega, by omega⟩)) (by first | assumption | exact ⟨by omega, by omega⟩ | (split <;> exact ⟨by omega, by omega⟩)) (fun h82 => ?_) (fun h82 => ?_)
        · refine Gs_vret p21_104 rfl ⟨rfl, ?_⟩
          first
            | (rw [metV_h (by omega)]; exact h47)
            | (rw [metV_k (by omega) (by dsimp only; rw [v0, vg]; assumption)]; exact h74)
            | (rw [metV_f (by omega) (by dsimp only; rw [v0, vl]; assumption)]; exact (COp.refl hk).feed hT hct.1 hct.2.1 hC0 hC1 hW0 hW1 (by rw [vl]; omega) (by rw [v7]; omega))
            | (rw [metV_n5 (by omega) (by dsimp only; rw [v0, vg]; assumption)]; exact COp.refl hk)
            | (rw [metV_n4 (by omega) (by dsimp only; rw [v0, vl]; assumption)]; exact COp.refl hk)
            | (exfalso; omega)
        · refine Gs_aload_n p21_85 rfl rfl ?_
          refine Gs_iload p21_86 rfl rfl ?_
          refine Gs_iload p21_88 rfl rfl ?_
          refine Gs_callV2I p21_90 (by rfl) (by rfl) (by first | rfl | assumption | exact (show isTale _ from by assumption).1 | exact (show isCamp _ _ from by assumption).1 | exact (show isRow _ _ from by assumption).1) (Nat.le_of_ble_eq_true rfl) (by decide) (c_canFeed hc hk hC0 hC1 hW0 hW1) (by omega) ?_
          refine Gs_ifb_eq (tgt := 104) p21_93 (by rfl) (fun h93 => ?_) (fun h93 => ?_)
          · refine Gs_vret p21_104 rfl ⟨rfl, ?_⟩
            first
              | (rw [metV_h (by omega)]; exact h47)
              | (rw [metV_k (by omega) (by dsimp only; rw [v0, vg]; assumption)]; exact h74)
              | (rw [metV_f (by omega) (by dsimp only; rw [v0, vl]; assumption)]; exact (COp.refl hk).feed hT hct.1 hct.2.1 hC0 hC1 hW0 hW1 (by rw [vl]; omega) (by rw [v7]; omega))
              | (rw [metV_n5 (by omega) (by dsimp only; rw [v0, vg]; assumption)]; exact COp.refl hk)
              | (rw [metV_n4 (by omega) (by dsimp only; rw [v0, vl]; assumption)]; exact COp.refl hk)
              | (exfalso; omega)
          · refine Gs_aload_n p21_96 rfl rfl ?_
            refine Gs_iload p21_97 rfl rfl ?_
            refine Gs_iload p21_99 rfl rfl ?_
            refine Gs_callV2W p21_101 (by rfl) (by rfl) (by first | rfl | assumption | exact (show isTale _ from by assumption).1 | exact (show isCamp _ _ from by assumption).1 | exact (show isRow _ _ from by assumption).1) (Nat.le_of_ble_eq_true rfl) (by decide) (c_feed hc hk hct.1 hct.2.1 ht hT hC0 hC1 hW0 hW1 (by omega) t7) (by omega) ?_
            refine Gs_vret p21_104 rfl ⟨rfl, ?_⟩
            first
              | (rw [metV_h (by omega)]; exact h47)
              | (rw [metV_k (by omega) (by dsimp only; rw [v0, vg]; assumption)]; exact h74)
              | (rw [metV_f (by omega) (by dsimp only; rw [v0, vl]; assumption)]; exact (COp.refl hk).feed hT hct.1 hct.2.1 hC0 hC1 hW0 hW1 (by rw [vl]; omega) (by rw [v7]; omega))
              | (rw [metV_n5 (by omega) (by dsimp only; rw [v0, vg]; assumption)]; exact COp.refl hk)
              | (rw [metV_n4 (by omega) (by dsimp only; rw [v0, vl]; assumption)]; exact COp.refl hk)
              | (exfalso; omega)
      · refine Gs_aload_n p21_69 rfl rfl ?_
        refine Gs_iload p21_70 rfl rfl ?_
        refine Gs_iload p21_72 rfl rfl ?_
        refine Gs_callV2v p21_74 (by rfl) (by rfl) (by first | rfl | assumption | exact (show isTale _ from by assumption).1 | exact (show isCamp _ _ from by assumption).1 | exact (show isRow _ _ from by assumption).1) (Nat.le_of_ble_eq_true rfl) (by decide) (c_kindle hc hk hC0 hC1 hG0 hG1 (by omega)) (by omega) (fun s74 h74 => ?_)
        refine Gs_goto (tgt := 104) p21_77 (by rfl) ?_
        refine Gs_vret p21_104 rfl ⟨rfl, ?_⟩
        first
          | (rw [metV_h (by omega)]; exact h47)
          | (rw [metV_k (by omega) (by dsimp only; rw [v0, vg]; assumption)]; exact h74)
          | (rw [metV_f (by omega) (by dsimp only; rw [v0, vl]; assumption)]; exact (COp.refl hk).feed hT hct.1 hct.2.1 hC0 hC1 hW0 hW1 (by rw [vl]; omega) (by rw [v7]; omega))
          | (rw [metV_n5 (by omega) (by dsimp only; rw [v0, vg]; assumption)]; exact COp.refl hk)
          | (rw [metV_n4 (by omega) (by dsimp only; rw [v0, vl]; assumption)]; exact COp.refl hk)
          | (exfalso; omega)
  · refine Gs_aload_n p21_46 rfl rfl ?_
    refine Gs_callV0v p21_47 (by rfl) (by rfl) (by first | rfl | assumption | exact (show isTale _ from by assumption).1 | exact (show isCamp _ _ from by assumption).1 | exact (show isRow _ _ from by assumption).1) (Nat.le_of_ble_eq_true rfl) (by decide) (c_burn hc hk ht hT hct (by omega)) (by omega) (fun s47 h47 => ?_)
    refine Gs_goto (tgt := 104) p21_50 (by rfl) ?_
    refine Gs_vret p21_104 rfl ⟨rfl, ?_⟩
    first
      | (rw [metV_h (by omega)]; exact h47)
      | (rw [metV_k (by omega) (by dsimp only; rw [v0, vg]; assumption)]; exact h74)
      | (rw [metV_f (by omega) (by dsimp only; rw [v0, vl]; assumption)]; exact (COp.refl hk).feed hT hct.1 hct.2.1 hC0 hC1 hW0 hW1 (by rw [vl]; omega) (by rw [v7]; omega))
      | (rw [metV_n5 (by omega) (by dsimp only; rw [v0, vg]; assumption)]; exact COp.refl hk)
      | (rw [metV_n4 (by omega) (by dsimp only; rw [v0, vl]; assumption)]; exact COp.refl hk)
      | (exfalso; omega)

theorem COp.tds {s t : St} {c : Nat} {n hr : Int} {V : Int → Int → Int} (o : COp s t c n V hr) : sm (tdS t c) n = sm (tdV V) n := sm_cong (fun k b0 b1 => by
  unfold tdS tdV
  rw [o.at b0 b1 (by omega) (by omega)])
theorem cp17_A {s : St} {a : Nat} (h : a ≠ 19) (z : Int) : vA (cpC s 17 14) a z = vA s a z := by rw [cpC_A, if_neg (fun e => h e.1)]
theorem cp17_F {s : St} {a k : Nat} (h1 : ¬ (a = 17 ∧ k = 2)) (h2 : ¬ (a = 18 ∧ k = 1)) : vF (cpC s 17 14) a k = vF s a k := by rw [cpC_F, if_neg h1, if_neg (by omega)]
theorem cp17_cv {s : St} {n : Int} (hC : CampOk s 14 n) : COp (cpC s 17 14) (cpC s 17 14) 17 n (cv s 14 n) (vF s 14 2) := by
  obtain ⟨k1, k2, k3, k4, k5, k6⟩ := id hC
  have k3' : vF s 15 1 = 8 * n := k3
  have e : ∀ k w, 0 ≤ k → k < n → 0 ≤ w → w < 8 → cg (cpC s 17 14) 17 k w = cg s 14 k w := fun k w a b c d => by
    show vA (cpC s 17 14) 19 _ = vA s 16 _
    rw [cpC_A, if_pos ⟨rfl, by omega, by show _ < vF s 15 1; omega⟩]
  refine ⟨?_, fun _ _ _ => rfl, fun _ _ _ => rfl, rfl, k1, k2, ?_, k4, k5, fun k w a b c d => ?_⟩
  · funext k w
    unfold cv
    split
    · rename_i r; exact e k w r.1.1 r.1.2 r.2.1 r.2.2
    · rfl
  · rw [cpC_F, if_neg (by omega), if_pos ⟨rfl, rfl⟩]; exact k3
  · have := e k w a b c d
    unfold cg at this
    rw [this]
    exact k6 k w a b c d
set_option maxHeartbeats 1000000 in
set_option maxRecDepth 4000 in
theorem k_winter {X : vX} {s : St} {n L K z v what : Int} (hT : TaleOk s 5) (hC : CampOk s 14 n) (hn : 1 ≤ n) (g : GoodV (cv s 14 n) n L K) (hL : L ≤ 9) (hK : K < 9999) (hB : ∀ l w, bhI s 5 l w = -4 ∨ (0 ≤ bhI s 5 l w ∧ bhI s 5 l w < L)) (hh : vF s 14 2 < 50000) (z0 : 0 ≤ z) (z1 : z ≤ 9999) (v0 : 1 ≤ v) (v1 : v ≤ 60) (w0 : 0 ≤ what) (w1 : what ≤ 1) : OkI X 6 117 [.ref 0, .int (iI z), .int (iI v), .int (iI what)] s (fun y u => y = (if what = 0 then sm (inV (wnV (rnI s 5) (bhI s 5) n z (cv s 14 n, vF s 14 2) v.toNat).1) n else sm (tdV (wnV (rnI s 5) (bhI s 5) n z (cv s 14 n, vF s 14 2) v.toNat).1) n - sm (tdV (cv s 14 n)) n) ∧ COp (cpC s 17 14) u 17 n (wnV (rnI s 5) (bhI s 5) n z (cv s 14 n, vF s 14 2) v.toNat).1 (wnV (rnI s 5) (bhI s 5) n z (cv s 14 n, vF s 14 2) v.toNat).2) := by
  refine Ok.of (r := vm_m117) (ls := [some (.ref 0), some (.int (iI z)), some (.int (iI v)), some (.int (iI what)), none]) rfl (Nat.le_of_ble_eq_true rfl) rfl (fun d hd => ?_)
  have gw := fun k hk => g.wn (p := (cv s 14 n, vF s 14 2)) (R := rnI s 5) (B := bhI s 5) (z := z) hn (fun x => (rnI_b hT x).1) hB hL hK k hk
  have hh0 := hC.2.2.2.1
  refine Gs_iload_n p117_0 rfl rfl ?_
  refine Gs_iconst p117_1 ?_
  refine Gs_sipush p117_2 (by decide) ?_
  refine Gs_callS3I p117_5 (by rfl) (Nat.le_of_ble_eq_true rfl) (by decide) (c_within ⟨by omega, by omega⟩ ⟨by omega, by omega⟩ ⟨by omega, by omega⟩) (by omega) ?_
  refine Gs_ifb_eq (tgt := 30) p117_8 (by rfl) (fun h8 => ?_) (fun h8 => ?_)
  · refine Gs_iconst p117_30 ?_
    refine Gs_iret p117_31 rfl ⟨_, rfl, ?_⟩
    exfalso; omega
  · refine Gs_iload_n p117_11 rfl rfl ?_
    refine Gs_iconst p117_12 ?_
    refine Gs_bipush p117_13 (by decide) ?_
    refine Gs_callS3I p117_15 (by rfl) (Nat.le_of_ble_eq_true rfl) (by decide) (c_within ⟨by omega, by omega⟩ ⟨by omega, by omega⟩ ⟨by omega, by omega⟩) (by omega) ?_
    refine Gs_ifb_eq (tgt := 30) p117_18 (by rfl) (fun h18 => ?_) (fun h18 => ?_)
    · refine Gs_iconst p117_30 ?_
      refine Gs_iret p117_31 rfl ⟨_, rfl, ?_⟩
      exfalso; omega
    · refine Gs_iload_n p117_21 rfl rfl ?_
      refine Gs_iconst p117_22 ?_
      refine Gs_iconst p117_23 ?_
      refine Gs_callS3I p117_24 (by rfl) (Nat.le_of_ble_eq_true rfl) (by decide) (c_within ⟨by omega, by omega⟩ ⟨by omega, by omega⟩ ⟨by omega, by omega⟩) (by omega) ?_
      refine Gs_ifb_ne (tgt := 32) p117_27 (by rfl) (fun h27 => ?_) (fun h27 => ?_)
      · refine Gs_aload_n p117_32 rfl rfl ?_
        refine Gs_getR p117_33 (by first | rfl | assumption | exact (show isTale _ from by assumption).1 | exact (show isCamp _ _ from by assumption).1 | exact (show isRow _ _ from by assumption).1) (by rfl) ?_
        refine Gs_aload_n p117_36 rfl rfl ?_
        refine Gs_getR p117_37 (by first | rfl | assumption | exact (show isTale _ from by assumption).1 | exact (show isCamp _ _ from by assumption).1 | exact (show isRow _ _ from by assumption).1) (by rfl) ?_
        refine Gs_callV1W p117_40 (by rfl) (by rfl) (by first | rfl | assumption | exact (show isTale _ from by assumption).1 | exact (show isCamp _ _ from by assumption).1 | exact (show isRow _ _ from by assumption).1) (Nat.le_of_ble_eq_true rfl) (by decide) (c_Cbecome camp17 camp14 hC (by decide) (by decide) (by decide) (by decide)) (by omega) ?_
        refine Gs_iconst p117_43 ?_
        refine Gs_ist4 p117_44 (by first | rfl | assumption) ?_
        refine dn (n := v) (P := fun i => ∀ u, COp (cpC s 17 14) u 17 n (wnV (rnI s 5) (bhI s 5) n z (cv s 14 n, vF s 14 2) i.toNat).1 (wnV (rnI s 5) (bhI s 5) n z (cv s 14 n, vF s 14 2) i.toNat).2 → Gs X d 117 46 [some (.ref 0), some (.int (iI z)), some (.int (iI v)), some (.int (iI what)), some (.int (iI i))] [] (u) (fun vv yy => ∃ zz : Int, vv = some (.int (iI zz)) ∧ (fun y u => y = (if what = 0 then sm (inV (wnV (rnI s 5) (bhI s 5) n z (cv s 14 n, vF s 14 2) v.toNat).1) n else sm (tdV (wnV (rnI s 5) (bhI s 5) n z (cv s 14 n, vF s 14 2) v.toNat).1) n - sm (tdV (cv s 14 n)) n) ∧ COp (cpC s 17 14) u 17 n (wnV (rnI s 5) (bhI s 5) n z (cv s 14 n, vF s 14 2) v.toNat).1 (wnV (rnI s 5) (bhI s 5) n z (cv s 14 n, vF s 14 2) v.toNat).2) zz yy)) (by omega) (fun i hi hin ih => ?_) ?_ (cpC s 17 14) (cp17_cv hC)
        · show ∀ u, COp (cpC s 17 14) u 17 n (wnV (rnI s 5) (bhI s 5) n z (cv s 14 n, vF s 14 2) i.toNat).1 (wnV (rnI s 5) (bhI s 5) n z (cv s 14 n, vF s 14 2) i.toNat).2 → Gs X d 117 46 [some (.ref 0), some (.int (iI z)), some (.int (iI v)), some (.int (iI what)), some (.int (iI i))] [] (u) _
          intro u o
          have F : ∀ a k, ¬ (a = 17 ∧ k = 2) → ¬ (a = 18 ∧ k = 1) → vF u a k = vF s a k := fun a k a1 a2 => (o.2.2.1 a k a1).trans (cp17_F a1 a2)
          have A : ∀ a z, a ≠ 19 → vA u a z = vA s a z := fun a z a1 => (o.2.1 a z a1).trans (cp17_A a1 z)
          have eR : rnI u 5 = rnI s 5 := funext (fun x => rnI_cong (F _ _ (by omega) (by omega)) (fun z => A _ z (by omega)) x)
          have eB : bhI u 5 = bhI s 5 := funext (fun l => funext (fun w => bhI_cong (F _ _ (by omega) (by omega)) (fun z => A _ z (by omega)) l w))
          have hT' : TaleOk u 5 := hT.cong (F _ _ (by omega) (by omega)) (F _ _ (by omega) (by omega)) (F _ _ (by omega) (by omega)) (fun z => A _ z (by omega)) (fun z => A _ z (by omega))
          obtain ⟨q1, q2, q3⟩ := gw i.toNat (by omega)
          dsimp only at q2 q3
          have hto : ∀ k, 0 ≤ k → k < n → cg u 17 k 7 < 100000 := fun k b0 b1 => by
            rw [o.at b0 b1 (by omega) (by omega)]
            have := (q1 k b0 b1).2.1
            omega
          have hdr := drw_r z i
          refine Gs_iload p117_46 rfl rfl ?_
          refine Gs_iload_n p117_48 rfl rfl ?_
          refine Gs_icmp_ge (tgt := 71) p117_49 (by rfl) (by first | assumption | exact ⟨by omega, by omega⟩ | (split <;> exact ⟨by omega, by omega⟩)) (by first | assumption | exact ⟨by omega, by omega⟩ | (split <;> exact ⟨by omega, by omega⟩)) (fun hc49 => absurd ‹_› (by first | omega | assumption)) (fun hc49 => ?_)
          refine Gs_aload_n p117_52 rfl rfl ?_
          refine Gs_getR p117_53 (by first | rfl | assumption | exact (show isTale _ from by assumption).1 | exact (show isCamp _ _ from by assumption).1 | exact (show isRow _ _ from by assumption).1) (by rfl) ?_
          refine Gs_iload_n p117_56 rfl rfl ?_
          refine Gs_iload p117_57 rfl rfl ?_
          refine Gs_callS2I p117_59 (by rfl) (Nat.le_of_ble_eq_true rfl) (by decide) (c_draw z0 z1 hi (by omega)) (by omega) ?_
          refine Gs_callV1v p117_62 (by rfl) (by rfl) (by rfl) (Nat.le_of_ble_eq_true rfl) (by decide) (c_meetDraw camp17 o.2.2.2.2 tale5 hT' (by decide) (by rw [o.2.2.2.1]; omega) hn hto hdr.1 hdr.2) (by omega) (fun s62 h62 => ?_)
          rw [eR, eB, o.1, o.2.2.2.1] at h62
          have o2 := o.trans h62
          rw [show ((wnV (rnI s 5) (bhI s 5) n z (cv s 14 n, vF s 14 2) i.toNat).1, (wnV (rnI s 5) (bhI s 5) n z (cv s 14 n, vF s 14 2) i.toNat).2) = wnV (rnI s 5) (bhI s 5) n z (cv s 14 n, vF s 14 2) i.toNat from rfl, ← wnV_s hi] at o2
          refine Gs_iinc4 (b54 := none) p117_65 (by first | rfl | assumption) ?_
          refine Gs_goto (tgt := 46) p117_68 (by rfl) ?_
          exact ih _ o2
        · show ∀ u, COp (cpC s 17 14) u 17 n (wnV (rnI s 5) (bhI s 5) n z (cv s 14 n, vF s 14 2) (v).toNat).1 (wnV (rnI s 5) (bhI s 5) n z (cv s 14 n, vF s 14 2) (v).toNat).2 → Gs X d 117 46 [some (.ref 0), some (.int (iI z)), some (.int (iI v)), some (.int (iI what)), some (.int (iI (v)))] [] (u) _
          intro u o
          have F : ∀ a k, ¬ (a = 17 ∧ k = 2) → ¬ (a = 18 ∧ k = 1) → vF u a k = vF s a k := fun a k a1 a2 => (o.2.2.1 a k a1).trans (cp17_F a1 a2)
          have A : ∀ a z, a ≠ 19 → vA u a z = vA s a z := fun a z a1 => (o.2.1 a z a1).trans (cp17_A a1 z)
          have hC' : CampOk u 14 n := hC.cong (F _ _ (by omega) (by omega)) (F _ _ (by omega) (by omega)) (fun z => A _ z (by omega))
          have eT : sm (tdS u 14) n = sm (tdV (cv s 14 n)) n := sm_cong (fun k b0 b1 => by
            unfold tdS tdV
            rw [cv_at b0 b1 (by omega) (by omega)]
            exact A 16 _ (by omega))
          refine Gs_iload p117_46 rfl rfl ?_
          refine Gs_iload_n p117_48 rfl rfl ?_
          refine Gs_icmp_ge (tgt := 71) p117_49 (by rfl) (by first | assumption | exact ⟨by omega, by omega⟩ | (split <;> exact ⟨by omega, by omega⟩)) (by first | assumption | exact ⟨by omega, by omega⟩ | (split <;> exact ⟨by omega, by omega⟩)) (fun hc49 => ?_) (fun hc49 => absurd ‹_› (by first | omega | assumption))
          refine Gs_iload_n p117_71 rfl rfl ?_
          refine Gs_if_ne (tgt := 85) p117_72 (by rfl) (by first | assumption | exact ⟨by omega, by omega⟩ | (split <;> exact ⟨by omega, by omega⟩)) (fun h72 => ?_) (fun h72 => ?_)
          · refine Gs_aload_n p117_85 rfl rfl ?_
            refine Gs_getR p117_86 (by first | rfl | assumption | exact (show isTale _ from by assumption).1 | exact (show isCamp _ _ from by assumption).1 | exact (show isRow _ _ from by assumption).1) (by rfl) ?_
            refine Gs_callV0I p117_89 (by rfl) (by rfl) (by first | rfl | assumption | exact (show isTale _ from by assumption).1 | exact (show isCamp _ _ from by assumption).1 | exact (show isRow _ _ from by assumption).1) (Nat.le_of_ble_eq_true rfl) (by decide) (c_linesTold camp17 o.2.2.2.2) (by omega) ?_
            refine Gs_aload_n p117_92 rfl rfl ?_
            refine Gs_getR p117_93 (by first | rfl | assumption | exact (show isTale _ from by assumption).1 | exact (show isCamp _ _ from by assumption).1 | exact (show isRow _ _ from by assumption).1) (by rfl) ?_
            refine Gs_callV0I p117_96 (by rfl) (by rfl) (by first | rfl | assumption | exact (show isTale _ from by assumption).1 | exact (show isCamp _ _ from by assumption).1 | exact (show isRow _ _ from by assumption).1) (Nat.le_of_ble_eq_true rfl) (by decide) (c_linesTold camp14 hC') (by omega) ?_
            refine Gs_isub p117_99 ?_
            refine Gs_iret p117_100 rfl ⟨_, rfl, ?_⟩
            first
              | (refine ⟨?_, o⟩; rw [if_pos (by omega)]; exact o.ins)
              | (refine ⟨?_, o⟩; rw [if_neg (by omega), o.tds, eT])
          · refine Gs_aload_n p117_75 rfl rfl ?_
            refine Gs_getR p117_76 (by first | rfl | assumption | exact (show isTale _ from by assumption).1 | exact (show isCamp _ _ from by assumption).1 | exact (show isRow _ _ from by assumption).1) (by rfl) ?_
            refine Gs_callV0I p117_79 (by rfl) (by rfl) (by first | rfl | assumption | exact (show isTale _ from by assumption).1 | exact (show isCamp _ _ from by assumption).1 | exact (show isRow _ _ from by assumption).1) (Nat.le_of_ble_eq_true rfl) (by decide) (c_firesIn camp17 o.2.2.2.2) (by omega) ?_
            refine Gs_goto (tgt := 100) p117_82 (by rfl) ?_
            refine Gs_iret p117_100 rfl ⟨_, rfl, ?_⟩
            first
              | (refine ⟨?_, o⟩; rw [if_pos (by omega)]; exact o.ins)
              | (refine ⟨?_, o⟩; rw [if_neg (by omega), o.tds, eT])
      · refine Gs_iconst p117_30 ?_
        refine Gs_iret p117_31 rfl ⟨_, rfl, ?_⟩
        exfalso; omega

set_option maxHeartbeats 1000000 in
set_option maxRecDepth 4000 in
theorem k_winter_no {X : vX} {s : St} {z v what : Int} (gz : rg z) (gv : rg v) (gw : rg what) (hno : ¬ ((0 ≤ z ∧ z ≤ 9999) ∧ (1 ≤ v ∧ v ≤ 60) ∧ (0 ≤ what ∧ what ≤ 1))) : OkI X 6 117 [.ref 0, .int (iI z), .int (iI v), .int (iI what)] s (Is1 (-1) s) := by
  refine Ok.of (r := vm_m117) (ls := [some (.ref 0), some (.int (iI z)), some (.int (iI v)), some (.int (iI what)), none]) rfl (Nat.le_of_ble_eq_true rfl) rfl (fun d hd => ?_)
  refine Gs_iload_n p117_0 rfl rfl ?_
  refine Gs_iconst p117_1 ?_
  refine Gs_sipush p117_2 (by decide) ?_
  refine Gs_callS3I p117_5 (by rfl) (Nat.le_of_ble_eq_true rfl) (by decide) (c_within gz ⟨by omega, by omega⟩ ⟨by omega, by omega⟩) (by omega) ?_
  refine Gs_ifb_eq (tgt := 30) p117_8 (by rfl) (fun h8 => ?_) (fun h8 => ?_)
  · refine Gs_iconst p117_30 ?_
    refine Gs_iret p117_31 rfl ⟨_, rfl, ?_⟩
    exact ⟨rfl, rfl⟩
  · refine Gs_iload_n p117_11 rfl rfl ?_
    refine Gs_iconst p117_12 ?_
    refine Gs_bipush p117_13 (by decide) ?_
    refine Gs_callS3I p117_15 (by rfl) (Nat.le_of_ble_eq_true rfl) (by decide) (c_within gv ⟨by omega, by omega⟩ ⟨by omega, by omega⟩) (by omega) ?_
    refine Gs_ifb_eq (tgt := 30) p117_18 (by rfl) (fun h18 => ?_) (fun h18 => ?_)
    · refine Gs_iconst p117_30 ?_
      refine Gs_iret p117_31 rfl ⟨_, rfl, ?_⟩
      exact ⟨rfl, rfl⟩
    · refine Gs_iload_n p117_21 rfl rfl ?_
      refine Gs_iconst p117_22 ?_
      refine Gs_iconst p117_23 ?_
      refine Gs_callS3I p117_24 (by rfl) (Nat.le_of_ble_eq_true rfl) (by decide) (c_within gw ⟨by omega, by omega⟩ ⟨by omega, by omega⟩) (by omega) ?_
      refine Gs_ifb_ne (tgt := 32) p117_27 (by rfl) (fun h27 => ?_) (fun h27 => ?_)
      · exfalso; omega
      · refine Gs_iconst p117_30 ?_
        refine Gs_iret p117_31 rfl ⟨_, rfl, ?_⟩
        exact ⟨rfl, rfl⟩
