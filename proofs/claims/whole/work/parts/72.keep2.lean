/-! keeping, the class' search -/
theorem row70 : isRow 70 4 := ⟨rfl, rfl, by decide⟩
theorem row72 : isRow 72 6 := ⟨rfl, rfl, by decide⟩
def KPre (u : St) (R : Int → Int) (hour : Int) (n : Nat) (lg : Int → Int) : Prop := TaleOk u 5 ∧ (∀ x, 0 ≤ x → rnI u 5 (vF u 69 3 + x) = R x) ∧ 0 ≤ vF u 69 3 ∧ vF u 69 3 ≤ 100000 ∧ vF u 69 4 = hour + n ∧ vF u 70 1 = 4 ∧ vF u 72 1 = 6 ∧ (∀ x, 0 ≤ x → x < 4 → vA u 71 x = lg x ∧ 0 ≤ lg x ∧ lg x ≤ 200) ∧ 0 ≤ hour ∧ hour + n ≤ 6
def KPo (u t : St) (place : Int) : Prop := (∀ a z, a ≠ 73 → vA t a z = vA u a z) ∧ (∀ z, z < place → vA t 73 z = vA u 73 z) ∧ (∀ a k, vF t a k = vF u a k)
def KPost (u : St) (place : Int) (n : Nat) (o : Option (Nat → Int)) (z : Int) (t : St) : Prop := z = (if o.isSome = true then 1 else 0) ∧ KPo u t place ∧ ∀ p, o = some p → ∀ i : Nat, i < n → vA t 73 (place + i) = p i
theorem KPo.rfl' (u : St) (place : Int) : KPo u u place := ⟨fun _ _ _ => rfl, fun _ _ => rfl, fun _ _ => rfl⟩
theorem KPo.trans {u t v : St} {place : Int} (h : KPo u t place) (g : KPo t v place) : KPo u v place := ⟨fun a z e => (g.1 a z e).trans (h.1 a z e), fun z e => (g.2.1 z e).trans (h.2.1 z e), fun a k => (g.2.2 a k).trans (h.2.2 a k)⟩
theorem KPre.po {u t : St} {R : Int → Int} {hour place : Int} {n : Nat} {lg : Int → Int} (h : KPre u R hour n lg) (g : KPo u t place) : KPre t R hour n lg := by
  obtain ⟨h1, h2, h3, h4, h5, h6, h7, h8, h9⟩ := h
  obtain ⟨g1, g2, g3⟩ := g
  exact ⟨h1.cong (g3 _ _) (g3 _ _) (g3 _ _) (fun z => g1 _ z (by decide)) (fun z => g1 _ z (by decide)), fun x a => by rw [g3, rnI_cong (g3 _ _) (fun z => g1 _ z (by decide))]; exact h2 x a, by rw [g3]; exact h3, by rw [g3]; exact h4, by rw [g3]; exact h5, by rw [g3]; exact h6, by rw [g3]; exact h7, fun x a b => by rw [g1 _ _ (by decide)]; exact h8 x a b, h9⟩
theorem fstN_skip {α : Type} {f : Nat → Option α} : ∀ (k w m : Nat), (∀ v, w ≤ v → v < w + k → f v = none) → fstN f (k + m) w = fstN f m (w + k) := by
  intro k
  induction k with
  | zero => intro w m _; rw [Nat.zero_add, Nat.add_zero]
  | succ k ih =>
    intro w m h
    rw [show k + 1 + m = (k + m) + 1 by omega, fstN_s, h w (Nat.le_refl _) (by omega)]
    show fstN f (k + m) (w + 1) = _
    rw [ih (w + 1) m (fun v a b => h v (by omega) (by omega)), show w + 1 + k = w + (k + 1) by omega]
set_option maxHeartbeats 1000000 in
set_option maxRecDepth 4000 in
theorem c_isKept0 {X : vX} {u : St} {R : Int → Int} {hour hot last more : Int} {lg : Int → Int} (h : KPre u R hour 0 lg) (ho0 : 0 ≤ hot) (ho1 : hot ≤ 20) (gl : rg last) (mo0 : 0 ≤ more) (mo1 : more ≤ 10) : OkI X 5 36 [.ref 69, .int (iI hour), .int (iI hot), .int (iI last), .int (iI more)] u (KPost u hour 0 (kp R 0 lg hot last hour more)) := by
  refine Ok.of (r := vm_m36) (ls := [some (.ref 69), some (.int (iI hour)), some (.int (iI hot)), some (.int (iI last)), some (.int (iI more)), none]) rfl (Nat.le_of_ble_eq_true rfl) rfl (fun d hd => ?_)
  obtain ⟨h1, h2, h3, h4, h5, h6, h7, h8, h9, h10⟩ := id h
  refine Gs_iload_n p36_0 rfl rfl ?_
  refine Gs_iconst p36_1 ?_
  refine Gs_icmp_lt (tgt := 16) p36_2 (by rfl) (by first | assumption | exact ⟨by omega, by omega⟩ | (split <;> exact ⟨by omega, by omega⟩)) (by first | assumption | exact ⟨by omega, by omega⟩ | (split <;> exact ⟨by omega, by omega⟩)) (fun h2 => ?_) (fun h2 => ?_)
  · refine Gs_iconst p36_16 ?_
    refine Gs_zret p36_17 rfl (by first | exact Or.inl rfl | exact Or.inr rfl | (split <;> first | exact Or.inl rfl | exact Or.inr rfl)) ⟨_, rfl, ?_⟩
    refine ⟨?_, KPo.rfl' _ _, fun p _ i hi => absurd hi (by omega)⟩
    unfold kp
    rw [if_neg (show ¬ (1 ≤ hot ∧ more ≤ 0) by omega)]
    rfl
  · refine Gs_iload p36_5 rfl rfl ?_
    refine Gs_aload_n p36_7 rfl rfl ?_
    refine Gs_getI p36_8 (by first | rfl | assumption | exact (show isTale _ from by assumption).1 | exact (show isCamp _ _ from by assumption).1 | exact (show isRow _ _ from by assumption).1) (by rfl) ?_
    refine Gs_iload_n p36_11 rfl rfl ?_
    refine Gs_isub p36_12 ?_
    refine Gs_icmp_le (tgt := 18) p36_13 (by rfl) (by first | assumption | exact ⟨by omega, by omega⟩ | (split <;> exact ⟨by omega, by omega⟩)) (by first | assumption | exact ⟨by omega, by omega⟩ | (split <;> exact ⟨by omega, by omega⟩)) (fun h13 => ?_) (fun h13 => ?_)
    · refine Gs_iload_n p36_18 rfl rfl ?_
      refine Gs_aload_n p36_19 rfl rfl ?_
      refine Gs_getI p36_20 (by first | rfl | assumption | exact (show isTale _ from by assumption).1 | exact (show isCamp _ _ from by assumption).1 | exact (show isRow _ _ from by assumption).1) (by rfl) ?_
      refine Gs_icmp_lt (tgt := 28) p36_23 (by rfl) (by first | assumption | exact ⟨by omega, by omega⟩ | (split <;> exact ⟨by omega, by omega⟩)) (by first | assumption | exact ⟨by omega, by omega⟩ | (split <;> exact ⟨by omega, by omega⟩)) (fun h23 => absurd ‹_› (by first | omega | assumption)) (fun h23 => ?_)
      refine Gs_iconst p36_26 ?_
      refine Gs_zret p36_27 rfl (by first | exact Or.inl rfl | exact Or.inr rfl | (split <;> first | exact Or.inl rfl | exact Or.inr rfl)) ⟨_, rfl, ?_⟩
      refine ⟨?_, KPo.rfl' _ _, fun p _ i hi => absurd hi (by omega)⟩
      unfold kp
      rw [if_pos (show 1 ≤ hot ∧ more ≤ 0 by omega)]
      rfl
    · refine Gs_iconst p36_16 ?_
      refine Gs_zret p36_17 rfl (by first | exact Or.inl rfl | exact Or.inr rfl | (split <;> first | exact Or.inl rfl | exact Or.inr rfl)) ⟨_, rfl, ?_⟩
      refine ⟨?_, KPo.rfl' _ _, fun p _ i hi => absurd hi (by omega)⟩
      unfold kp
      rw [if_neg (show ¬ (1 ≤ hot ∧ more ≤ 0) by omega)]
      rfl

set_option maxHeartbeats 4000000 in
set_option maxRecDepth 4000 in
theorem c_isKeptBy {X : vX} {R : Int → Int} {n : Nat} (IH : ∀ (u : St) (hour hot last more : Int) (lg : Int → Int), KPre u R hour n lg → 0 ≤ hot → hot ≤ 20 → rg last → 0 ≤ more → more ≤ 10 → OkI X (2 * n + 5) 36 [.ref 69, .int (iI hour), .int (iI hot), .int (iI last), .int (iI more)] u (KPost u hour n (kp R n lg hot last hour more))) {u : St} {hour hot last more : Int} {lg : Int → Int} (h : KPre u R hour (n + 1) lg) (ho0 : 0 ≤ hot) (ho1 : hot ≤ 20) (gl : rg last) (mo0 : 0 ≤ more) (mo1 : more ≤ 10) (hm : 0 < more) {w : Nat} (hw : w < 4) : OkI X (2 * n + 6) 37 [.ref 69, .int (iI (w : Int)), .int (iI hour), .int (iI hot), .int (iI more)] u (KPost u hour (n + 1) (kpF (kp R n) R lg hot last hour more w)) := by
  refine Ok.of (r := vm_m37) (ls := [some (.ref 69), some (.int (iI (w : Int))), some (.int (iI hour)), some (.int (iI hot)), some (.int (iI more)), none, none]) rfl (Nat.le_of_ble_eq_true rfl) rfl (fun d hd => ?_)
  obtain ⟨h1, h2, h3, h4, h5, h6, h7, h8, h9, h10⟩ := id h
  have hf := fedI_b hot (w : Int)
  have hl := h8 (w : Int) (by omega) (by omega)
  have hR := h2 hour (by omega)
  have hRb := rnI_b h1 (vF u 69 3 + hour)
  rw [hR] at hRb
  have hbu := burntI_b (h := fedI hot (w : Int)) (last := (w : Int)) hf.2 hRb.1
  have a1 : ∀ a z, a ≠ 71 → a ≠ 73 → vA (sA (sA u 71 (w : Int) (vA u 71 (w : Int) - 1)) 73 hour (w : Int)) a z = vA u a z := fun a z x1 x2 => by rw [vA_sA, if_neg (fun r => x2 r.1), vA_sA, if_neg (fun r => x1 r.1)]
  have hT1 : TaleOk (sA (sA u 71 (w : Int) (vA u 71 (w : Int) - 1)) 73 hour (w : Int)) 5 := h1.cong rfl rfl rfl (fun z => a1 7 z (by decide) (by decide)) (fun z => a1 9 z (by decide) (by decide))
  have eR : ∀ x, rnI (sA (sA u 71 (w : Int) (vA u 71 (w : Int) - 1)) 73 hour (w : Int)) 5 x = rnI u 5 x := fun x => rnI_cong (u := 5) rfl (fun z => a1 9 z (by decide) (by decide)) x
  have hp : KPre (sA (sA u 71 (w : Int) (vA u 71 (w : Int) - 1)) 73 hour (w : Int)) R (hour + 1) n (up1 lg (w : Int) (lg (w : Int) - 1)) ∨ ¬ 1 ≤ lg (w : Int) := by
    by_cases q : 1 ≤ lg (w : Int)
    · refine Or.inl ⟨hT1, fun x x0 => by rw [eR]; exact h2 x x0, h3, h4, ?_, h6, h7, fun x x0 x1 => ?_, by omega, by omega⟩
      · show vF u 69 4 = hour + 1 + (n : Int); omega
      · rw [vA_sA, if_neg (by omega), vA_sA, up1_at]
        have := h8 x x0 x1
        by_cases ex : x = (w : Int)
        · rw [if_pos ⟨rfl, ex⟩, if_pos ex, hl.1]; omega
        · rw [if_neg (fun r => ex r.2), if_neg ex]; exact this
    · exact Or.inr q
  have hk : kpF (kp R n) R lg hot last hour more w = if 0 < more ∧ 1 ≤ lg (w : Int) ∧ 1 ≤ fedI hot (w : Int) then (match kp R n (up1 lg (w : Int) (lg (w : Int) - 1)) (burntI (fedI hot (w : Int)) (w : Int) (R hour)) (w : Int) (hour + 1) (more - 1) with | some p => some (cns (w : Int) p) | none => none) else none := if_pos hw
  rw [hk]
  refine Gs_iload_n p37_0 rfl rfl ?_
  refine Gs_iload_n p37_1 rfl rfl ?_
  refine Gs_callS2I p37_2 (by rfl) (Nat.le_of_ble_eq_true rfl) (by decide) (c_fed (by omega) (by omega) ⟨by omega, by omega⟩) (by omega) ?_
  refine Gs_ist5 p37_5 (by first | rfl | assumption) ?_
  refine Gs_aload_n p37_7 rfl rfl ?_
  refine Gs_getR p37_8 (by first | rfl | assumption | exact (show isTale _ from by assumption).1 | exact (show isCamp _ _ from by assumption).1 | exact (show isRow _ _ from by assumption).1) (by rfl) ?_
  refine Gs_iload_n p37_11 rfl rfl ?_
  refine Gs_callV1I p37_12 (by rfl) (by rfl) (by rfl) (Nat.le_of_ble_eq_true rfl) (by decide) (c_agot (a := 71) row70 rfl ⟨by omega, by omega⟩ (by omega) (by omega) (by omega) (by omega)) (by omega) ?_
  rw [hl.1]
  refine Gs_iconst p37_15 ?_
  refine Gs_icmp_lt (tgt := 25) p37_16 (by rfl) (by first | assumption | exact ⟨by omega, by omega⟩ | (split <;> exact ⟨by omega, by omega⟩)) (by first | assumption | exact ⟨by omega, by omega⟩ | (split <;> exact ⟨by omega, by omega⟩)) (fun h16 => ?_) (fun h16 => ?_)
  · refine Gs_iconst p37_25 ?_
    refine Gs_zret p37_26 rfl (by first | exact Or.inl rfl | exact Or.inr rfl | (split <;> first | exact Or.inl rfl | exact Or.inr rfl)) ⟨_, rfl, ?_⟩
    rw [if_neg (show ¬ (0 < more ∧ 1 ≤ lg (w : Int) ∧ 1 ≤ fedI hot (w : Int)) by omega)]
    exact ⟨rfl, KPo.rfl' _ _, fun p hp' => (by cases hp')⟩
  · refine Gs_iload p37_19 rfl rfl ?_
    refine Gs_iconst p37_21 ?_
    refine Gs_icmp_ge (tgt := 27) p37_22 (by rfl) (by first | assumption | exact ⟨by omega, by omega⟩ | (split <;> exact ⟨by omega, by omega⟩)) (by first | assumption | exact ⟨by omega, by omega⟩ | (split <;> exact ⟨by omega, by omega⟩)) (fun h22 => ?_) (fun h22 => ?_)
    · refine Gs_aload_n p37_27 rfl rfl ?_
      refine Gs_getR p37_28 (by first | rfl | assumption | exact (show isTale _ from by assumption).1 | exact (show isCamp _ _ from by assumption).1 | exact (show isRow _ _ from by assumption).1) (by rfl) ?_
      refine Gs_iload_n p37_31 rfl rfl ?_
      refine Gs_aload_n p37_32 rfl rfl ?_
      refine Gs_getR p37_33 (by first | rfl | assumption | exact (show isTale _ from by assumption).1 | exact (show isCamp _ _ from by assumption).1 | exact (show isRow _ _ from by assumption).1) (by rfl) ?_
      refine Gs_iload_n p37_36 rfl rfl ?_
      refine Gs_callV1I p37_37 (by rfl) (by rfl) (by rfl) (Nat.le_of_ble_eq_true rfl) (by decide) (c_agot (a := 71) row70 rfl ⟨by omega, by omega⟩ (by omega) (by omega) (by omega) (by omega)) (by omega) ?_
      refine Gs_iconst p37_40 ?_
      refine Gs_isub p37_41 ?_
      refine Gs_callV2W p37_42 (by rfl) (by rfl) (by rfl) (Nat.le_of_ble_eq_true rfl) (by decide) (c_aset (a := 71) row70 rfl ⟨by omega, by omega⟩ (by omega) (by omega) (by omega) (by omega)) (by omega) ?_
      refine Gs_aload_n p37_45 rfl rfl ?_
      refine Gs_getR p37_46 (by first | rfl | assumption | exact (show isTale _ from by assumption).1 | exact (show isCamp _ _ from by assumption).1 | exact (show isRow _ _ from by assumption).1) (by rfl) ?_
      refine Gs_iload_n p37_49 rfl rfl ?_
      refine Gs_iload_n p37_50 rfl rfl ?_
      refine Gs_callV2W p37_51 (by rfl) (by rfl) (by rfl) (Nat.le_of_ble_eq_true rfl) (by decide) (c_aset (a := 73) row72 rfl ⟨by omega, by omega⟩ (show 0 ≤ vF u 72 1 by omega) (show vF u 72 1 ≤ ((6 : Nat) : Int) by omega) (by omega) (show hour < vF u 72 1 by omega)) (by omega) ?_
      refine Gs_aload_n p37_54 rfl rfl ?_
      refine Gs_iload_n p37_55 rfl rfl ?_
      refine Gs_iconst p37_56 ?_
      refine Gs_iadd p37_57 ?_
      refine Gs_iload p37_58 rfl rfl ?_
      refine Gs_iload_n p37_60 rfl rfl ?_
      refine Gs_aload_n p37_61 rfl rfl ?_
      refine Gs_getR p37_62 (by first | rfl | assumption | exact (show isTale _ from by assumption).1 | exact (show isCamp _ _ from by assumption).1 | exact (show isRow _ _ from by assumption).1) (by rfl) ?_
      refine Gs_aload_n p37_65 rfl rfl ?_
      refine Gs_getI p37_66 (by first | rfl | assumption | exact (show isTale _ from by assumption).1 | exact (show isCamp _ _ from by assumption).1 | exact (show isRow _ _ from by assumption).1) (by rfl) ?_
      refine Gs_iload_n p37_69 rfl rfl ?_
      refine Gs_iadd p37_70 ?_
      refine Gs_callV1I p37_71 (by rfl) (by rfl) (by rfl) (Nat.le_of_ble_eq_true rfl) (by decide) (c_rainAt tale5 hT1 (show 0 ≤ vF u 69 3 + hour by omega) (show vF u 69 3 + hour < 2147483648 by omega)) (by omega) ?_
      rw [eR, show vF (sA (sA u 71 (w : Int) (vA u 71 (w : Int) - 1)) 73 hour (w : Int)) 69 3 = vF u 69 3 from rfl, hR]
      refine Gs_callS3I p37_74 (by rfl) (Nat.le_of_ble_eq_true rfl) (by decide) (c_burnt (by omega) (by omega) hRb.1 (by omega) ⟨by omega, by omega⟩) (by omega) ?_
      refine Gs_iload_n p37_77 rfl rfl ?_
      refine Gs_iload p37_78 rfl rfl ?_
      refine Gs_iconst p37_80 ?_
      refine Gs_isub p37_81 ?_
      refine Gs_callV4i p37_82 (by rfl) (by rfl) (by rfl) (Nat.le_of_ble_eq_true rfl) (by decide) (IH (sA (sA u 71 (w : Int) (vA u 71 (w : Int) - 1)) 73 hour (w : Int)) (hour + 1) _ _ _ _ (hp.resolve_right (by omega)) hbu.1 hbu.2 ⟨by omega, by omega⟩ (by omega) (by omega)) (by omega) (fun z82 s82 h82 => ?_)
      have e75 : vF s82 70 1 = 4 := (h82.2.1.2.2 70 1).trans h6
      have e76 : vA s82 71 (w : Int) = lg (w : Int) - 1 := by rw [h82.2.1.1 71 _ (by decide), vA_sA, if_neg (by omega), vA_sA, if_pos ⟨rfl, rfl⟩, hl.1]
      refine Gs_ist6 p37_85 (by first | rfl | assumption) ?_
      refine Gs_aload_n p37_87 rfl rfl ?_
      refine Gs_getR p37_88 (by first | rfl | assumption | exact (show isTale _ from by assumption).1 | exact (show isCamp _ _ from by assumption).1 | exact (show isRow _ _ from by assumption).1) (by rfl) ?_
      refine Gs_iload_n p37_91 rfl rfl ?_
      refine Gs_aload_n p37_92 rfl rfl ?_
      refine Gs_getR p37_93 (by first | rfl | assumption | exact (show isTale _ from by assumption).1 | exact (show isCamp _ _ from by assumption).1 | exact (show isRow _ _ from by assumption).1) (by rfl) ?_
      refine Gs_iload_n p37_96 rfl rfl ?_
      refine Gs_callV1I p37_97 (by rfl) (by rfl) (by rfl) (Nat.le_of_ble_eq_true rfl) (by decide) (c_agot (a := 71) row70 rfl ⟨by omega, by omega⟩ (by rw [e75]; omega) (by rw [e75]; omega) (by omega) (by rw [e75]; omega)) (by omega) ?_
      refine Gs_iconst p37_100 ?_
      refine Gs_iadd p37_101 ?_
      refine Gs_callV2W p37_102 (by rfl) (by rfl) (by rfl) (Nat.le_of_ble_eq_true rfl) (by decide) (c_aset (a := 71) row70 rfl ⟨by omega, by omega⟩ (by rw [e75]; omega) (by rw [e75]; omega) (by omega) (by rw [e75]; omega)) (by omega) ?_
      refine Gs_iload p37_105 rfl rfl ?_
      rw [h82.1]
      refine Gs_zret p37_107 rfl (by first | exact Or.inl rfl | exact Or.inr rfl | (split <;> first | exact Or.inl rfl | exact Or.inr rfl)) ⟨_, rfl, ?_⟩
      rw [if_pos (show 0 < more ∧ 1 ≤ lg (w : Int) ∧ 1 ≤ fedI hot (w : Int) by omega)]
      refine ⟨?_, ⟨fun a z x1 => ?_, fun z x1 => ?_, fun a k => ?_⟩, fun p hp' i hi => ?_⟩
      · cases kp R n (up1 lg (w : Int) (lg (w : Int) - 1)) (burntI (fedI hot (w : Int)) (w : Int) (R hour)) (w : Int) (hour + 1) (more - 1) <;> rfl
      · rw [vA_sA, e76]
        by_cases ex : a = 71 ∧ z = (w : Int)
        · rw [if_pos ex, ex.1, ex.2, hl.1]; omega
        · rw [if_neg ex, h82.2.1.1 a z x1, vA_sA, if_neg (fun r => x1 r.1), vA_sA, if_neg ex]
      · rw [vA_sA, if_neg (by omega), h82.2.1.2.1 z (by omega), vA_sA, if_neg (by omega), vA_sA, if_neg (by omega)]
      · exact h82.2.1.2.2 a k
      · cases e : kp R n (up1 lg (w : Int) (lg (w : Int) - 1)) (burntI (fedI hot (w : Int)) (w : Int) (R hour)) (w : Int) (hour + 1) (more - 1) with
        | none => rw [e] at hp'; cases hp'
        | some q =>
          rw [e] at hp'
          have : p = cns (w : Int) q := (Option.some.inj hp').symm
          subst this
          rw [vA_sA, if_neg (by omega)]
          cases i with
          | zero =>
            rw [h82.2.1.2.1 _ (by omega), vA_sA, if_pos ⟨rfl, by omega⟩]; rfl
          | succ i =>
            have := h82.2.2 q e i (by omega)
            rw [show hour + ((i + 1 : Nat) : Int) = hour + 1 + (i : Int) by omega]
            exact this
    · refine Gs_iconst p37_25 ?_
      refine Gs_zret p37_26 rfl (by first | exact Or.inl rfl | exact Or.inr rfl | (split <;> first | exact Or.inl rfl | exact Or.inr rfl)) ⟨_, rfl, ?_⟩
      rw [if_neg (show ¬ (0 < more ∧ 1 ≤ lg (w : Int) ∧ 1 ≤ fedI hot (w : Int)) by omega)]
      exact ⟨rfl, KPo.rfl' _ _, fun p hp' => (by cases hp')⟩

set_option maxHeartbeats 4000000 in
theorem l_keptail {X : vX} {R : Int → Int} {n : Nat} (IH : ∀ (u : St) (hour hot last more : Int) (lg : Int → Int), KPre u R hour n lg → 0 ≤ hot → hot ≤ 20 → rg last → 0 ≤ more → more ≤ 10 → OkI X (2 * n + 5) 36 [.ref 69, .int (iI hour), .int (iI hot), .int (iI last), .int (iI more)] u (KPost u hour n (kp R n lg hot last hour more))) {u y : St} {hour hot last more : Int} {lg : Int → Int} (h : KPre u R hour (n + 1) lg) (ho0 : 0 ≤ hot) (ho1 : hot ≤ 20) (gl : rg last) (mo0 : 0 ≤ more) (mo1 : more ≤ 10) {A : Option (Nat → Int)} {v5 : Option Value} {d : Nat} (hd : 2 * n + 7 ≤ d) (o : KPo u y hour) (e : (match kp R n lg (burntI hot last (R hour)) last (hour + 1) more with | some p => some (cns (-4) p) | none => none) = A) : Gs X d 36 63 [some (.ref 69), some (.int (iI hour)), some (.int (iI hot)), some (.int (iI last)), some (.int (iI more)), v5] [] y (fun vv yy => ∃ zz : Int, vv = some (.int (iI zz)) ∧ KPost u hour (n + 1) A zz yy) := by
  obtain ⟨h1, h2, h3, h4, h5, h6, h7, h8, h9, h10⟩ := id (h.po o)
  have hR := h2 hour (by omega)
  have hRb := rnI_b h1 (vF y 69 3 + hour)
  rw [hR] at hRb
  have hbu := burntI_b (h := hot) (last := last) ho1 hRb.1
  have hT1 : TaleOk (sA y 73 hour (-4)) 5 := h1.sA (by decide) (by decide)
  have eR : ∀ x, rnI (sA y 73 hour (-4)) 5 x = rnI y 5 x := fun x => rnI_cong (u := 5) rfl (fun z => by rw [vA_sA, if_neg (by omega)]) x
  have hp : KPre (sA y 73 hour (-4)) R (hour + 1) n lg := ⟨hT1, fun x x0 => by rw [eR]; exact h2 x x0, h3, h4, by show vF y 69 4 = hour + 1 + (n : Int); omega, h6, h7, fun x x0 x1 => by rw [vA_sA, if_neg (by omega)]; exact h8 x x0 x1, by omega, by omega⟩
  refine Gs_aload_n p36_63 rfl rfl ?_
  refine Gs_getR p36_64 (by first | rfl | assumption | exact (show isTale _ from by assumption).1 | exact (show isCamp _ _ from by assumption).1 | exact (show isRow _ _ from by assumption).1) (by rfl) ?_
  refine Gs_iload_n p36_67 rfl rfl ?_
  refine Gs_bipush p36_68 (by decide) ?_
  refine Gs_callV2W p36_70 (by rfl) (by rfl) (by rfl) (Nat.le_of_ble_eq_true rfl) (by decide) (c_aset (a := 73) row72 rfl ⟨by omega, by omega⟩ (by omega) (by omega) (by omega) (by omega)) (by omega) ?_
  refine Gs_aload_n p36_73 rfl rfl ?_
  refine Gs_iload_n p36_74 rfl rfl ?_
  refine Gs_iconst p36_75 ?_
  refine Gs_iadd p36_76 ?_
  refine Gs_iload_n p36_77 rfl rfl ?_
  refine Gs_iload_n p36_78 rfl rfl ?_
  refine Gs_aload_n p36_79 rfl rfl ?_
  refine Gs_getR p36_80 (by first | rfl | assumption | exact (show isTale _ from by assumption).1 | exact (show isCamp _ _ from by assumption).1 | exact (show isRow _ _ from by assumption).1) (by rfl) ?_
  refine Gs_aload_n p36_83 rfl rfl ?_
  refine Gs_getI p36_84 (by first | rfl | assumption | exact (show isTale _ from by assumption).1 | exact (show isCamp _ _ from by assumption).1 | exact (show isRow _ _ from by assumption).1) (by rfl) ?_
  refine Gs_iload_n p36_87 rfl rfl ?_
  refine Gs_iadd p36_88 ?_
  refine Gs_callV1I p36_89 (by rfl) (by rfl) (by rfl) (Nat.le_of_ble_eq_true rfl) (by decide) (c_rainAt tale5 hT1 (show 0 ≤ vF y 69 3 + hour by omega) (show vF y 69 3 + hour < 2147483648 by omega)) (by omega) ?_
  rw [eR, show vF (sA y 73 hour (-4)) 69 3 = vF y 69 3 from rfl, hR]
  refine Gs_callS3I p36_92 (by rfl) (Nat.le_of_ble_eq_true rfl) (by decide) (c_burnt (by omega) (by omega) hRb.1 (by omega) gl) (by omega) ?_
  refine Gs_iload_n p36_95 rfl rfl ?_
  refine Gs_iload p36_96 rfl rfl ?_
  refine Gs_callV4i p36_98 (by rfl) (by rfl) (by rfl) (Nat.le_of_ble_eq_true rfl) (by decide) (IH _ (hour + 1) _ _ _ lg hp hbu.1 hbu.2 gl mo0 mo1) (by omega) (fun z98 s98 h98 => ?_)
  rw [h98.1]
  refine Gs_zret p36_101 rfl (by first | exact Or.inl rfl | exact Or.inr rfl | (split <;> first | exact Or.inl rfl | exact Or.inr rfl)) ⟨_, rfl, ?_⟩
  refine ⟨?_, o.trans ⟨fun a z x1 => ?_, fun z x1 => ?_, fun a k => h98.2.1.2.2 a k⟩, fun p hp' i hi => ?_⟩
  · rw [← e]
    cases kp R n lg (burntI hot last (R hour)) last (hour + 1) more <;> rfl
  · rw [h98.2.1.1 a z x1, vA_sA, if_neg (fun r => x1 r.1)]
  · rw [h98.2.1.2.1 z (by omega), vA_sA, if_neg (by omega)]
  · rw [← e] at hp'
    cases e2 : kp R n lg (burntI hot last (R hour)) last (hour + 1) more with
    | none => rw [e2] at hp'; cases hp'
    | some q =>
      rw [e2] at hp'
      have : p = cns (-4) q := (Option.some.inj hp').symm
      subst this
      cases i with
      | zero => rw [h98.2.1.2.1 _ (by omega), vA_sA, if_pos ⟨rfl, by omega⟩]; rfl
      | succ i =>
        have := h98.2.2 q e2 i (by omega)
        rw [show hour + ((i + 1 : Nat) : Int) = hour + 1 + (i : Int) by omega]
        exact this
set_option maxHeartbeats 1000000 in
set_option maxRecDepth 4000 in
theorem c_isKeptS {X : vX} {R : Int → Int} {n : Nat} (IH : ∀ (u : St) (hour hot last more : Int) (lg : Int → Int), KPre u R hour n lg → 0 ≤ hot → hot ≤ 20 → rg last → 0 ≤ more → more ≤ 10 → OkI X (2 * n + 5) 36 [.ref 69, .int (iI hour), .int (iI hot), .int (iI last), .int (iI more)] u (KPost u hour n (kp R n lg hot last hour more))) {u : St} {hour hot last more : Int} {lg : Int → Int} (h : KPre u R hour (n + 1) lg) (ho0 : 0 ≤ hot) (ho1 : hot ≤ 20) (gl : rg last) (mo0 : 0 ≤ more) (mo1 : more ≤ 10) : OkI X (2 * n + 7) 36 [.ref 69, .int (iI hour), .int (iI hot), .int (iI last), .int (iI more)] u (KPost u hour (n + 1) (kp R (n + 1) lg hot last hour more)) := by
  refine Ok.of (r := vm_m36) (ls := [some (.ref 69), some (.int (iI hour)), some (.int (iI hot)), some (.int (iI last)), some (.int (iI more)), none]) rfl (Nat.le_of_ble_eq_true rfl) rfl (fun d hd => ?_)
  obtain ⟨h1, h2, h3, h4, h5, h6, h7, h8, h9, h10⟩ := id h
  refine Gs_iload_n p36_0 rfl rfl ?_
  refine Gs_iconst p36_1 ?_
  refine Gs_icmp_lt (tgt := 16) p36_2 (by rfl) (by first | assumption | exact ⟨by omega, by omega⟩ | (split <;> exact ⟨by omega, by omega⟩)) (by first | assumption | exact ⟨by omega, by omega⟩ | (split <;> exact ⟨by omega, by omega⟩)) (fun h2 => ?_) (fun h2 => ?_)
  · refine Gs_iconst p36_16 ?_
    refine Gs_zret p36_17 rfl (by first | exact Or.inl rfl | exact Or.inr rfl | (split <;> first | exact Or.inl rfl | exact Or.inr rfl)) ⟨_, rfl, ?_⟩
    have en : kp R (n + 1) lg hot last hour more = none := if_pos (by omega)
    rw [en]
    exact ⟨rfl, KPo.rfl' _ _, fun p hp => (by cases hp)⟩
  · refine Gs_iload p36_5 rfl rfl ?_
    refine Gs_aload_n p36_7 rfl rfl ?_
    refine Gs_getI p36_8 (by first | rfl | assumption | exact (show isTale _ from by assumption).1 | exact (show isCamp _ _ from by assumption).1 | exact (show isRow _ _ from by assumption).1) (by rfl) ?_
    refine Gs_iload_n p36_11 rfl rfl ?_
    refine Gs_isub p36_12 ?_
    refine Gs_icmp_le (tgt := 18) p36_13 (by rfl) (by first | assumption | exact ⟨by omega, by omega⟩ | (split <;> exact ⟨by omega, by omega⟩)) (by first | assumption | exact ⟨by omega, by omega⟩ | (split <;> exact ⟨by omega, by omega⟩)) (fun h13 => ?_) (fun h13 => ?_)
    · refine Gs_iload_n p36_18 rfl rfl ?_
      refine Gs_aload_n p36_19 rfl rfl ?_
      refine Gs_getI p36_20 (by first | rfl | assumption | exact (show isTale _ from by assumption).1 | exact (show isCamp _ _ from by assumption).1 | exact (show isRow _ _ from by assumption).1) (by rfl) ?_
      refine Gs_icmp_lt (tgt := 28) p36_23 (by rfl) (by first | assumption | exact ⟨by omega, by omega⟩ | (split <;> exact ⟨by omega, by omega⟩)) (by first | assumption | exact ⟨by omega, by omega⟩ | (split <;> exact ⟨by omega, by omega⟩)) (fun h23 => ?_) (fun h23 => absurd ‹_› (by first | omega | assumption))
      have eA : kp R (n + 1) lg hot last hour more = fstN (kpF (kp R n) R lg hot last hour more) 5 0 := if_neg (by omega)
      generalize kp R (n + 1) lg hot last hour more = A at eA
      have f4 : kpF (kp R n) R lg hot last hour more 4 = (match kp R n lg (burntI hot last (R hour)) last (hour + 1) more with | some p => some (cns (-4) p) | none => none) := if_neg (by decide)
      have tl4 : ∀ k : Nat, fstN (kpF (kp R n) R lg hot last hour more) (0 + 1) 4 = (match kp R n lg (burntI hot last (R hour)) last (hour + 1) more with | some p => some (cns (-4) p) | none => none) := fun _ => by
        rw [fstN_s, f4]
        cases kp R n lg (burntI hot last (R hour)) last (hour + 1) more <;> rfl
      refine Gs_iconst p36_28 ?_
      refine Gs_ist5 p36_29 (by first | rfl | assumption) ?_
      refine dn (n := (4 : Int)) (P := fun j => ∀ y, KPo u y hour → fstN (kpF (kp R n) R lg hot last hour more) (5 - j).toNat j.toNat = A → Gs X d 36 31 [some (.ref 69), some (.int (iI hour)), some (.int (iI hot)), some (.int (iI last)), some (.int (iI more)), some (.int (iI j))] [] (y) (fun vv yy => ∃ zz : Int, vv = some (.int (iI zz)) ∧ KPost u hour (n + 1) A zz yy)) (by omega) (fun j hj hjn ih => ?_) ?_ u (KPo.rfl' _ _) eA.symm
      · show ∀ y, KPo u y hour → fstN (kpF (kp R n) R lg hot last hour more) (5 - j).toNat j.toNat = A → Gs X d 36 31 [some (.ref 69), some (.int (iI hour)), some (.int (iI hot)), some (.int (iI last)), some (.int (iI more)), some (.int (iI j))] [] (y) _
        intro y o e
        refine Gs_iload p36_31 rfl rfl ?_
        refine Gs_iconst p36_33 ?_
        refine Gs_icmp_ge (tgt := 63) p36_34 (by rfl) (by first | assumption | exact ⟨by omega, by omega⟩ | (split <;> exact ⟨by omega, by omega⟩)) (by first | assumption | exact ⟨by omega, by omega⟩ | (split <;> exact ⟨by omega, by omega⟩)) (fun hc34 => absurd ‹_› (by first | omega | assumption)) (fun hc34 => ?_)
        refine Gs_iload p36_37 rfl rfl ?_
        refine Gs_if_le (tgt := 63) p36_39 (by rfl) (by first | assumption | exact ⟨by omega, by omega⟩ | (split <;> exact ⟨by omega, by omega⟩)) (fun h39 => ?_) (fun h39 => ?_)
        · rw [show (5 - j).toNat = (4 - j).toNat + 1 by omega, fstN_skip (4 - j).toNat j.toNat 1 (fun v a b => by unfold kpF; rw [if_pos (by omega), if_neg (by omega)]), show j.toNat + (4 - j).toNat = 4 by omega] at e
          exact l_keptail IH h ho0 ho1 gl mo0 mo1 (by omega) o ((tl4 0).symm.trans e)
        · rw [show (5 - j).toNat = (5 - (j + 1)).toNat + 1 by omega, fstN_s, show j.toNat + 1 = (j + 1).toNat by omega] at e
          have B := c_isKeptBy IH (h.po o) ho0 ho1 gl mo0 mo1 (by omega) (w := j.toNat) (by omega)
          rw [show ((j.toNat : Nat) : Int) = j by omega] at B
          refine Gs_aload_n p36_42 rfl rfl ?_
          refine Gs_iload p36_43 rfl rfl ?_
          refine Gs_iload_n p36_45 rfl rfl ?_
          refine Gs_iload_n p36_46 rfl rfl ?_
          refine Gs_iload p36_47 rfl rfl ?_
          refine Gs_callV4i p36_49 (by rfl) (by rfl) (by rfl) (Nat.le_of_ble_eq_true rfl) (by decide) (B) (by omega) (fun z49 s49 h49 => ?_)
          rw [h49.1]
          refine Gs_ifb_eq (tgt := 57) p36_52 (by rfl) (fun h52 => ?_) (fun h52 => ?_)
          · refine Gs_iinc5 (b55 := none) p36_57 (by first | rfl | assumption) ?_
            refine Gs_goto (tgt := 31) p36_60 (by rfl) ?_
            cases eo : kpF (kp R n) R lg hot last hour more j.toNat with
            | none => rw [eo] at e; exact ih _ (o.trans h49.2.1) e
            | some q => rw [eo] at h52; exact absurd rfl h52
          · refine Gs_iconst p36_55 ?_
            refine Gs_zret p36_56 rfl (by first | exact Or.inl rfl | exact Or.inr rfl | (split <;> first | exact Or.inl rfl | exact Or.inr rfl)) ⟨_, rfl, ?_⟩
            cases eo : kpF (kp R n) R lg hot last hour more j.toNat with
            | none => rw [eo] at h52; exact absurd h52 (by decide)
            | some q =>
              rw [eo] at e
              have e : some q = A := e
              subst e
              exact ⟨rfl, o.trans h49.2.1, fun p hp => h49.2.2 p (by rw [eo]; exact hp)⟩
      · show ∀ y, KPo u y hour → fstN (kpF (kp R n) R lg hot last hour more) (5 - ((4 : Int))).toNat ((4 : Int)).toNat = A → Gs X d 36 31 [some (.ref 69), some (.int (iI hour)), some (.int (iI hot)), some (.int (iI last)), some (.int (iI more)), some (.int (iI ((4 : Int))))] [] (y) _
        intro y o e
        refine Gs_iload p36_31 rfl rfl ?_
        refine Gs_iconst p36_33 ?_
        refine Gs_icmp_ge (tgt := 63) p36_34 (by rfl) (by first | assumption | exact ⟨by omega, by omega⟩ | (split <;> exact ⟨by omega, by omega⟩)) (by first | assumption | exact ⟨by omega, by omega⟩ | (split <;> exact ⟨by omega, by omega⟩)) (fun hc34 => ?_) (fun hc34 => absurd ‹_› (by first | omega | assumption))
        exact l_keptail IH h ho0 ho1 gl mo0 mo1 (by omega) o ((tl4 0).symm.trans e)
    · refine Gs_iconst p36_16 ?_
      refine Gs_zret p36_17 rfl (by first | exact Or.inl rfl | exact Or.inr rfl | (split <;> first | exact Or.inl rfl | exact Or.inr rfl)) ⟨_, rfl, ?_⟩
      have en : kp R (n + 1) lg hot last hour more = none := if_pos (by omega)
      rw [en]
      exact ⟨rfl, KPo.rfl' _ _, fun p hp => (by cases hp)⟩

theorem c_isKept {X : vX} {R : Int → Int} (n : Nat) : ∀ (u : St) (hour hot last more : Int) (lg : Int → Int), KPre u R hour n lg → 0 ≤ hot → hot ≤ 20 → rg last → 0 ≤ more → more ≤ 10 → OkI X (2 * n + 5) 36 [.ref 69, .int (iI hour), .int (iI hot), .int (iI last), .int (iI more)] u (KPost u hour n (kp R n lg hot last hour more)) := by
  induction n with
  | zero => intro u hour hot last more lg h a b c d e; exact c_isKept0 h a b c d e
  | succ n ih => intro u hour hot last more lg h a b c d e; exact c_isKeptS ih h a b c d e