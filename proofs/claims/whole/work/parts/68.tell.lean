/-! tell, the class' side -/
theorem row75 : isRow 75 4 := ⟨rfl, rfl, by decide⟩
theorem row77 : isRow 77 6 := ⟨rfl, rfl, by decide⟩
/-- the teller's state ahead of a place, with n woods to come -/
def TPre (u : St) (C : Int → Int → Int) (L wt place : Int) (n : Nat) (hot at_ : Int) (lg : Int → Int) : Prop := TaleOk u 5 ∧ (∀ l w, 0 ≤ l → l < L → 0 ≤ w → w < 4 → cfI u 5 l w = C l w ∧ 0 ≤ C l w ∧ C l w < L) ∧ L ≤ 9 ∧ vF u 74 4 = place + n ∧ vF u 74 3 = wt ∧ vF u 75 1 = 4 ∧ vF u 77 1 = 6 ∧ (∀ x, 0 ≤ x → x < 4 → vA u 76 x = lg x ∧ 0 ≤ lg x ∧ lg x ≤ 200) ∧ 0 ≤ place ∧ place + n ≤ 6 ∧ 0 ≤ hot ∧ hot ≤ 20 ∧ 0 ≤ at_ ∧ at_ < L ∧ 0 ≤ wt ∧ wt < 9
def TPo (u t : St) (place : Int) : Prop := (∀ a z, a ≠ 78 → vA t a z = vA u a z) ∧ (∀ z, z < place → vA t 78 z = vA u 78 z) ∧ (∀ a k, vF t a k = vF u a k)
def TPost (u : St) (place : Int) (n : Nat) (o : Option (Nat → Int)) (z : Int) (t : St) : Prop := z = (if o.isSome = true then 1 else 0) ∧ TPo u t place ∧ ∀ p, o = some p → ∀ i : Nat, i < n → vA t 78 (place + i) = p i
theorem cfI_cong {s t : St} {u : Nat} (e4 : vF t u 4 = vF s u 4) (e : ∀ z, vA t (u + 2) z = vA s (u + 2) z) (l w : Int) : cfI t u l w = cfI s u l w := by unfold cfI; rw [bhI_cong e4 e]
theorem TPo.rfl' (u : St) (place : Int) : TPo u u place := ⟨fun _ _ _ => rfl, fun _ _ => rfl, fun _ _ => rfl⟩
theorem TPo.trans {u t v : St} {place : Int} (h : TPo u t place) (g : TPo t v place) : TPo u v place := ⟨fun a z e => (g.1 a z e).trans (h.1 a z e), fun z e => (g.2.1 z e).trans (h.2.1 z e), fun a k => (g.2.2 a k).trans (h.2.2 a k)⟩
theorem TPre.po {u t : St} {C : Int → Int → Int} {L wt place : Int} {n : Nat} {hot at_ : Int} {lg : Int → Int} (h : TPre u C L wt place n hot at_ lg) (g : TPo u t place) : TPre t C L wt place n hot at_ lg := by
  obtain ⟨h1, h2, h3, h4, h5, h6, h7, h8, h9⟩ := h
  obtain ⟨g1, g2, g3⟩ := g
  have e : ∀ l w, cfI t 5 l w = cfI u 5 l w := fun l w => by unfold cfI; rw [bhI_cong (g3 _ _) (fun z => g1 _ z (by decide))]
  exact ⟨h1.cong (g3 _ _) (g3 _ _) (g3 _ _) (fun z => g1 _ z (by decide)) (fun z => g1 _ z (by decide)), fun l w a b c d => by rw [e]; exact h2 l w a b c d, h3, by rw [g3]; exact h4, by rw [g3]; exact h5, by rw [g3]; exact h6, by rw [g3]; exact h7, fun x a b => by rw [g1 _ _ (by decide)]; exact h8 x a b, h9⟩
set_option maxHeartbeats 1000000 in
set_option maxRecDepth 4000 in
theorem c_isTold0 {X : vX} {u : St} {C : Int → Int → Int} {L wt place hot at_ : Int} {lg : Int → Int} (h : TPre u C L wt place 0 hot at_ lg) : OkI X 5 90 [.ref 74, .int (iI place), .int (iI hot), .int (iI at_)] u (TPost u place 0 (tl C wt 0 lg hot at_)) := by
  refine Ok.of (r := vm_m90) (ls := [some (.ref 74), some (.int (iI place)), some (.int (iI hot)), some (.int (iI at_)), none]) rfl (Nat.le_of_ble_eq_true rfl) rfl (fun d hd => ?_)
  obtain ⟨h1, h2, h3, h4, h5, h6, h7, h8, h9, h10, h11, h12, h13, h14, h15, h16⟩ := id h
  refine Gs_iload_n p90_0 rfl rfl ?_
  refine Gs_aload_n p90_1 rfl rfl ?_
  refine Gs_getI p90_2 (by first | rfl | assumption | exact (show isTale _ from by assumption).1 | exact (show isCamp _ _ from by assumption).1 | exact (show isRow _ _ from by assumption).1) (by rfl) ?_
  refine Gs_icmp_lt (tgt := 22) p90_5 (by rfl) (by first | assumption | exact ⟨by omega, by omega⟩ | (split <;> exact ⟨by omega, by omega⟩)) (by first | assumption | exact ⟨by omega, by omega⟩ | (split <;> exact ⟨by omega, by omega⟩)) (fun h5 => absurd ‹_› (by first | omega | assumption)) (fun h5 => ?_)
  refine Gs_iload_n p90_8 rfl rfl ?_
  refine Gs_aload_n p90_9 rfl rfl ?_
  refine Gs_getI p90_10 (by first | rfl | assumption | exact (show isTale _ from by assumption).1 | exact (show isCamp _ _ from by assumption).1 | exact (show isRow _ _ from by assumption).1) (by rfl) ?_
  refine Gs_icmp_ne (tgt := 20) p90_13 (by rfl) (by first | assumption | exact ⟨by omega, by omega⟩ | (split <;> exact ⟨by omega, by omega⟩)) (by first | assumption | exact ⟨by omega, by omega⟩ | (split <;> exact ⟨by omega, by omega⟩)) (fun h13 => ?_) (fun h13 => ?_)
  · refine Gs_iconst p90_20 ?_
    refine Gs_zret p90_21 rfl (by first | exact Or.inl rfl | exact Or.inr rfl | (split <;> first | exact Or.inl rfl | exact Or.inr rfl)) ⟨_, rfl, ?_⟩
    refine ⟨?_, TPo.rfl' _ _, fun p _ i hi => absurd hi (by omega)⟩
    unfold tl
    first
      | (rw [if_pos (show at_ = wt by omega)]; rfl)
      | (rw [if_neg (show ¬ at_ = wt by omega)]; rfl)
  · refine Gs_iconst p90_16 ?_
    refine Gs_goto (tgt := 21) p90_17 (by rfl) ?_
    refine Gs_zret p90_21 rfl (by first | exact Or.inl rfl | exact Or.inr rfl | (split <;> first | exact Or.inl rfl | exact Or.inr rfl)) ⟨_, rfl, ?_⟩
    refine ⟨?_, TPo.rfl' _ _, fun p _ i hi => absurd hi (by omega)⟩
    unfold tl
    first
      | (rw [if_pos (show at_ = wt by omega)]; rfl)
      | (rw [if_neg (show ¬ at_ = wt by omega)]; rfl)

set_option maxHeartbeats 4000000 in
set_option maxRecDepth 4000 in
theorem c_isToldBy {X : vX} {C : Int → Int → Int} {L wt : Int} {n : Nat} (IH : ∀ (u : St) (place hot at_ : Int) (lg : Int → Int), TPre u C L wt place n hot at_ lg → OkI X (2 * n + 5) 90 [.ref 74, .int (iI place), .int (iI hot), .int (iI at_)] u (TPost u place n (tl C wt n lg hot at_))) {u : St} {place hot at_ : Int} {lg : Int → Int} (h : TPre u C L wt place (n + 1) hot at_ lg) {w : Nat} (hw : w < 4) : OkI X (2 * n + 6) 91 [.ref 74, .int (iI (w : Int)), .int (iI place), .int (iI hot), .int (iI at_)] u (TPost u place (n + 1) (tlF (tl C wt n) C lg hot at_ w)) := by
  refine Ok.of (r := vm_m91) (ls := [some (.ref 74), some (.int (iI (w : Int))), some (.int (iI place)), some (.int (iI hot)), some (.int (iI at_)), none, none]) rfl (Nat.le_of_ble_eq_true rfl) rfl (fun d hd => ?_)
  obtain ⟨h1, h2, h3, h4, h5, h6, h7, h8, h9, h10, h11, h12, h13, h14, h15, h16⟩ := id h
  have hf := fedI_b hot (w : Int)
  have hl := h8 (w : Int) (by omega) (by omega)
  have hc := h2 at_ (w : Int) h13 h14 (by omega) (by omega)
  have a1 : ∀ a z, a ≠ 76 → a ≠ 78 → vA (sA (sA u 76 (w : Int) (vA u 76 (w : Int) - 1)) 78 place (w : Int)) a z = vA u a z := fun a z x1 x2 => by rw [vA_sA, if_neg (fun r => x2 r.1), vA_sA, if_neg (fun r => x1 r.1)]
  have eC : ∀ l w', cfI (sA (sA u 76 (w : Int) (vA u 76 (w : Int) - 1)) 78 place (w : Int)) 5 l w' = cfI u 5 l w' := fun l w' => cfI_cong (u := 5) rfl (fun z => a1 7 z (by decide) (by decide)) l w'
  have hT1 : TaleOk (sA (sA u 76 (w : Int) (vA u 76 (w : Int) - 1)) 78 place (w : Int)) 5 := h1.cong rfl rfl rfl (fun z => a1 7 z (by decide) (by decide)) (fun z => a1 9 z (by decide) (by decide))
  have hp : TPre (sA (sA u 76 (w : Int) (vA u 76 (w : Int) - 1)) 78 place (w : Int)) C L wt (place + 1) n (fedI hot (w : Int)) (C at_ (w : Int)) (up1 lg (w : Int) (lg (w : Int) - 1)) ∨ ¬ 1 ≤ lg (w : Int) := by
    by_cases q : 1 ≤ lg (w : Int)
    · refine Or.inl ⟨hT1, fun l w' x1 x2 x3 x4 => by rw [eC]; exact h2 l w' x1 x2 x3 x4, h3, ?_, h5, h6, h7, fun x x0 x1 => ?_, by omega, by omega, hf.1, hf.2, hc.2.1, hc.2.2, h15, h16⟩
      · show vF u 74 4 = place + 1 + (n : Int); omega
      · rw [vA_sA, if_neg (by omega), vA_sA, up1_at]
        have := h8 x x0 x1
        by_cases ex : x = (w : Int)
        · rw [if_pos ⟨rfl, ex⟩, if_pos ex, hl.1]; omega
        · rw [if_neg (fun r => ex r.2), if_neg ex]; exact this
    · exact Or.inr q
  have hpl : (n : Int) + 1 = ((n + 1 : Nat) : Int) := by omega
  refine Gs_iload_n p91_0 rfl rfl ?_
  refine Gs_iload_n p91_1 rfl rfl ?_
  refine Gs_callS2I p91_2 (by rfl) (Nat.le_of_ble_eq_true rfl) (by decide) (c_fed (by omega) (by omega) ⟨by omega, by omega⟩) (by omega) ?_
  refine Gs_ist5 p91_5 (by first | rfl | assumption) ?_
  refine Gs_aload_n p91_7 rfl rfl ?_
  refine Gs_getR p91_8 (by first | rfl | assumption | exact (show isTale _ from by assumption).1 | exact (show isCamp _ _ from by assumption).1 | exact (show isRow _ _ from by assumption).1) (by rfl) ?_
  refine Gs_iload_n p91_11 rfl rfl ?_
  refine Gs_callV1I p91_12 (by rfl) (by rfl) (by rfl) (Nat.le_of_ble_eq_true rfl) (by decide) (c_agot (a := 76) row75 rfl ⟨by omega, by omega⟩ (by omega) (by omega) (by omega) (by omega)) (by omega) ?_
  rw [hl.1]
  refine Gs_iconst p91_15 ?_
  refine Gs_icmp_lt (tgt := 25) p91_16 (by rfl) (by first | assumption | exact ⟨by omega, by omega⟩ | (split <;> exact ⟨by omega, by omega⟩)) (by first | assumption | exact ⟨by omega, by omega⟩ | (split <;> exact ⟨by omega, by omega⟩)) (fun h16 => ?_) (fun h16 => ?_)
  · refine Gs_iconst p91_25 ?_
    refine Gs_zret p91_26 rfl (by first | exact Or.inl rfl | exact Or.inr rfl | (split <;> first | exact Or.inl rfl | exact Or.inr rfl)) ⟨_, rfl, ?_⟩
    refine ⟨?_, TPo.rfl' _ _, fun p hp' => ?_⟩
    · unfold tlF; rw [if_neg (show ¬ (1 ≤ lg (w : Int) ∧ 1 ≤ fedI hot (w : Int)) by omega)]; rfl
    · unfold tlF at hp'; rw [if_neg (show ¬ (1 ≤ lg (w : Int) ∧ 1 ≤ fedI hot (w : Int)) by omega)] at hp'; cases hp'
  · refine Gs_iload p91_19 rfl rfl ?_
    refine Gs_iconst p91_21 ?_
    refine Gs_icmp_ge (tgt := 27) p91_22 (by rfl) (by first | assumption | exact ⟨by omega, by omega⟩ | (split <;> exact ⟨by omega, by omega⟩)) (by first | assumption | exact ⟨by omega, by omega⟩ | (split <;> exact ⟨by omega, by omega⟩)) (fun h22 => ?_) (fun h22 => ?_)
    · refine Gs_aload_n p91_27 rfl rfl ?_
      refine Gs_getR p91_28 (by first | rfl | assumption | exact (show isTale _ from by assumption).1 | exact (show isCamp _ _ from by assumption).1 | exact (show isRow _ _ from by assumption).1) (by rfl) ?_
      refine Gs_iload_n p91_31 rfl rfl ?_
      refine Gs_aload_n p91_32 rfl rfl ?_
      refine Gs_getR p91_33 (by first | rfl | assumption | exact (show isTale _ from by assumption).1 | exact (show isCamp _ _ from by assumption).1 | exact (show isRow _ _ from by assumption).1) (by rfl) ?_
      refine Gs_iload_n p91_36 rfl rfl ?_
      refine Gs_callV1I p91_37 (by rfl) (by rfl) (by rfl) (Nat.le_of_ble_eq_true rfl) (by decide) (c_agot (a := 76) row75 rfl ⟨by omega, by omega⟩ (by omega) (by omega) (by omega) (by omega)) (by omega) ?_
      refine Gs_iconst p91_40 ?_
      refine Gs_isub p91_41 ?_
      refine Gs_callV2W p91_42 (by rfl) (by rfl) (by rfl) (Nat.le_of_ble_eq_true rfl) (by decide) (c_aset (a := 76) row75 rfl ⟨by omega, by omega⟩ (by omega) (by omega) (by omega) (by omega)) (by omega) ?_
      refine Gs_aload_n p91_45 rfl rfl ?_
      refine Gs_getR p91_46 (by first | rfl | assumption | exact (show isTale _ from by assumption).1 | exact (show isCamp _ _ from by assumption).1 | exact (show isRow _ _ from by assumption).1) (by rfl) ?_
      refine Gs_iload_n p91_49 rfl rfl ?_
      refine Gs_iload_n p91_50 rfl rfl ?_
      refine Gs_callV2W p91_51 (by rfl) (by rfl) (by rfl) (Nat.le_of_ble_eq_true rfl) (by decide) (c_aset (a := 78) row77 rfl ⟨by omega, by omega⟩ (show 0 ≤ vF u 77 1 by omega) (show vF u 77 1 ≤ ((6 : Nat) : Int) by omega) (by omega) (show place < vF u 77 1 by omega)) (by omega) ?_
      refine Gs_aload_n p91_54 rfl rfl ?_
      refine Gs_iload_n p91_55 rfl rfl ?_
      refine Gs_iconst p91_56 ?_
      refine Gs_iadd p91_57 ?_
      refine Gs_iload p91_58 rfl rfl ?_
      refine Gs_aload_n p91_60 rfl rfl ?_
      refine Gs_getR p91_61 (by first | rfl | assumption | exact (show isTale _ from by assumption).1 | exact (show isCamp _ _ from by assumption).1 | exact (show isRow _ _ from by assumption).1) (by rfl) ?_
      refine Gs_iload p91_64 rfl rfl ?_
      refine Gs_iload_n p91_66 rfl rfl ?_
      refine Gs_callV2I p91_67 (by rfl) (by rfl) (by rfl) (Nat.le_of_ble_eq_true rfl) (by decide) (c_comingFrom tale5 hT1 ⟨by omega, by omega⟩ ⟨by omega, by omega⟩) (by omega) ?_
      rw [eC, hc.1]
      refine Gs_callV3i p91_70 (by rfl) (by rfl) (by rfl) (Nat.le_of_ble_eq_true rfl) (by decide) (IH (sA (sA u 76 (w : Int) (vA u 76 (w : Int) - 1)) 78 place (w : Int)) (place + 1) _ _ _ (hp.resolve_right (by omega))) (by omega) (fun z70 s70 h70 => ?_)
      have e75 : vF s70 75 1 = 4 := (h70.2.1.2.2 75 1).trans h6
      have e76 : vA s70 76 (w : Int) = lg (w : Int) - 1 := by rw [h70.2.1.1 76 _ (by decide), vA_sA, if_neg (by omega), vA_sA, if_pos ⟨rfl, rfl⟩, hl.1]
      refine Gs_ist6 p91_73 (by first | rfl | assumption) ?_
      refine Gs_aload_n p91_75 rfl rfl ?_
      refine Gs_getR p91_76 (by first | rfl | assumption | exact (show isTale _ from by assumption).1 | exact (show isCamp _ _ from by assumption).1 | exact (show isRow _ _ from by assumption).1) (by rfl) ?_
      refine Gs_iload_n p91_79 rfl rfl ?_
      refine Gs_aload_n p91_80 rfl rfl ?_
      refine Gs_getR p91_81 (by first | rfl | assumption | exact (show isTale _ from by assumption).1 | exact (show isCamp _ _ from by assumption).1 | exact (show isRow _ _ from by assumption).1) (by rfl) ?_
      refine Gs_iload_n p91_84 rfl rfl ?_
      refine Gs_callV1I p91_85 (by rfl) (by rfl) (by rfl) (Nat.le_of_ble_eq_true rfl) (by decide) (c_agot (a := 76) row75 rfl ⟨by omega, by omega⟩ (by rw [e75]; omega) (by rw [e75]; omega) (by omega) (by rw [e75]; omega)) (by omega) ?_
      refine Gs_iconst p91_88 ?_
      refine Gs_iadd p91_89 ?_
      refine Gs_callV2W p91_90 (by rfl) (by rfl) (by rfl) (Nat.le_of_ble_eq_true rfl) (by decide) (c_aset (a := 76) row75 rfl ⟨by omega, by omega⟩ (by rw [e75]; omega) (by rw [e75]; omega) (by omega) (by rw [e75]; omega)) (by omega) ?_
      refine Gs_iload p91_93 rfl rfl ?_
      rw [h70.1]
      refine Gs_zret p91_95 rfl (by first | exact Or.inl rfl | exact Or.inr rfl | (split <;> first | exact Or.inl rfl | exact Or.inr rfl)) ⟨_, rfl, ?_⟩
      refine ⟨?_, ⟨fun a z x1 => ?_, fun z x1 => ?_, fun a k => ?_⟩, fun p hp' i hi => ?_⟩
      · unfold tlF
        rw [if_pos (show 1 ≤ lg (w : Int) ∧ 1 ≤ fedI hot (w : Int) by omega)]
        cases tl C wt n (up1 lg (w : Int) (lg (w : Int) - 1)) (fedI hot (w : Int)) (C at_ (w : Int)) <;> rfl
      · rw [vA_sA, e76]
        by_cases ex : a = 76 ∧ z = (w : Int)
        · rw [if_pos ex, ex.1, ex.2, hl.1]; omega
        · rw [if_neg ex, h70.2.1.1 a z x1, vA_sA, if_neg (fun r => x1 r.1), vA_sA, if_neg ex]
      · rw [vA_sA, if_neg (by omega), h70.2.1.2.1 z (by omega), vA_sA, if_neg (by omega), vA_sA, if_neg (by omega)]
      · exact h70.2.1.2.2 a k
      · unfold tlF at hp'
        rw [if_pos (show 1 ≤ lg (w : Int) ∧ 1 ≤ fedI hot (w : Int) by omega)] at hp'
        cases e : tl C wt n (up1 lg (w : Int) (lg (w : Int) - 1)) (fedI hot (w : Int)) (C at_ (w : Int)) with
        | none => rw [e] at hp'; cases hp'
        | some q =>
          rw [e] at hp'
          have : p = cns (w : Int) q := (Option.some.inj hp').symm
          subst this
          rw [vA_sA, if_neg (by omega)]
          cases i with
          | zero =>
            rw [h70.2.1.2.1 _ (by omega), vA_sA, if_pos ⟨rfl, by omega⟩]; rfl
          | succ i =>
            have := h70.2.2 q e i (by omega)
            rw [show place + ((i + 1 : Nat) : Int) = place + 1 + (i : Int) by omega]
            exact this
    · refine Gs_iconst p91_25 ?_
      refine Gs_zret p91_26 rfl (by first | exact Or.inl rfl | exact Or.inr rfl | (split <;> first | exact Or.inl rfl | exact Or.inr rfl)) ⟨_, rfl, ?_⟩
      refine ⟨?_, TPo.rfl' _ _, fun p hp' => ?_⟩
      · unfold tlF; rw [if_neg (show ¬ (1 ≤ lg (w : Int) ∧ 1 ≤ fedI hot (w : Int)) by omega)]; rfl
      · unfold tlF at hp'; rw [if_neg (show ¬ (1 ≤ lg (w : Int) ∧ 1 ≤ fedI hot (w : Int)) by omega)] at hp'; cases hp'

set_option maxHeartbeats 1000000 in
set_option maxRecDepth 4000 in
theorem c_isToldS {X : vX} {C : Int → Int → Int} {L wt : Int} {n : Nat} (IH : ∀ (u : St) (place hot at_ : Int) (lg : Int → Int), TPre u C L wt place n hot at_ lg → OkI X (2 * n + 5) 90 [.ref 74, .int (iI place), .int (iI hot), .int (iI at_)] u (TPost u place n (tl C wt n lg hot at_))) {u : St} {place hot at_ : Int} {lg : Int → Int} (h : TPre u C L wt place (n + 1) hot at_ lg) : OkI X (2 * n + 7) 90 [.ref 74, .int (iI place), .int (iI hot), .int (iI at_)] u (TPost u place (n + 1) (tl C wt (n + 1) lg hot at_)) := by
  refine Ok.of (r := vm_m90) (ls := [some (.ref 74), some (.int (iI place)), some (.int (iI hot)), some (.int (iI at_)), none]) rfl (Nat.le_of_ble_eq_true rfl) rfl (fun d hd => ?_)
  obtain ⟨h1, h2, h3, h4, h5, h6, h7, h8, h9, h10, h11, h12, h13, h14, h15, h16⟩ := id h
  generalize hA : tl C wt (n + 1) lg hot at_ = A
  refine Gs_iload_n p90_0 rfl rfl ?_
  refine Gs_aload_n p90_1 rfl rfl ?_
  refine Gs_getI p90_2 (by first | rfl | assumption | exact (show isTale _ from by assumption).1 | exact (show isCamp _ _ from by assumption).1 | exact (show isRow _ _ from by assumption).1) (by rfl) ?_
  refine Gs_icmp_lt (tgt := 22) p90_5 (by rfl) (by first | assumption | exact ⟨by omega, by omega⟩ | (split <;> exact ⟨by omega, by omega⟩)) (by first | assumption | exact ⟨by omega, by omega⟩ | (split <;> exact ⟨by omega, by omega⟩)) (fun h5 => ?_) (fun h5 => absurd ‹_› (by first | omega | assumption))
  refine Gs_iconst p90_22 ?_
  refine Gs_ist4 p90_23 (by first | rfl | assumption) ?_
  refine dn (n := (4 : Int)) (P := fun j => ∀ y, TPo u y place → fstN (tlF (tl C wt n) C lg hot at_) (4 - j).toNat j.toNat = A → Gs X d 90 25 [some (.ref 74), some (.int (iI place)), some (.int (iI hot)), some (.int (iI at_)), some (.int (iI j))] [] (y) (fun vv yy => ∃ zz : Int, vv = some (.int (iI zz)) ∧ TPost u place (n + 1) A zz yy)) (by omega) (fun j hj hjn ih => ?_) ?_ u (TPo.rfl' _ _) hA
  · show ∀ y, TPo u y place → fstN (tlF (tl C wt n) C lg hot at_) (4 - j).toNat j.toNat = A → Gs X d 90 25 [some (.ref 74), some (.int (iI place)), some (.int (iI hot)), some (.int (iI at_)), some (.int (iI j))] [] (y) _
    intro y o e
    rw [show (4 - j).toNat = (4 - (j + 1)).toNat + 1 by omega, fstN_s, show j.toNat + 1 = (j + 1).toNat by omega] at e
    have B := c_isToldBy IH (h.po o) (w := j.toNat) (by omega)
    rw [show ((j.toNat : Nat) : Int) = j by omega] at B
    refine Gs_iload p90_25 rfl rfl ?_
    refine Gs_iconst p90_27 ?_
    refine Gs_icmp_ge (tgt := 51) p90_28 (by rfl) (by first | assumption | exact ⟨by omega, by omega⟩ | (split <;> exact ⟨by omega, by omega⟩)) (by first | assumption | exact ⟨by omega, by omega⟩ | (split <;> exact ⟨by omega, by omega⟩)) (fun hc28 => absurd ‹_› (by first | omega | assumption)) (fun hc28 => ?_)
    refine Gs_aload_n p90_31 rfl rfl ?_
    refine Gs_iload p90_32 rfl rfl ?_
    refine Gs_iload_n p90_34 rfl rfl ?_
    refine Gs_iload_n p90_35 rfl rfl ?_
    refine Gs_iload_n p90_36 rfl rfl ?_
    refine Gs_callV4i p90_37 (by rfl) (by rfl) (by rfl) (Nat.le_of_ble_eq_true rfl) (by decide) (B) (by omega) (fun z37 s37 h37 => ?_)
    rw [h37.1]
    refine Gs_ifb_eq (tgt := 45) p90_40 (by rfl) (fun h40 => ?_) (fun h40 => ?_)
    · refine Gs_iinc4 (b54 := none) p90_45 (by first | rfl | assumption) ?_
      refine Gs_goto (tgt := 25) p90_48 (by rfl) ?_
      cases eo : tlF (tl C wt n) C lg hot at_ j.toNat with
      | none => rw [eo] at e; exact ih _ (o.trans h37.2.1) e
      | some q => rw [eo] at h40; exact absurd rfl h40
    · refine Gs_iconst p90_43 ?_
      refine Gs_zret p90_44 rfl (by first | exact Or.inl rfl | exact Or.inr rfl | (split <;> first | exact Or.inl rfl | exact Or.inr rfl)) ⟨_, rfl, ?_⟩
      cases eo : tlF (tl C wt n) C lg hot at_ j.toNat with
      | none => rw [eo] at h40; exact absurd h40 (by decide)
      | some q =>
        rw [eo] at e
        have e : some q = A := e
        subst e
        exact ⟨rfl, o.trans h37.2.1, fun p hp => h37.2.2 p (by rw [eo]; exact hp)⟩
  · show ∀ y, TPo u y place → fstN (tlF (tl C wt n) C lg hot at_) (4 - ((4 : Int))).toNat ((4 : Int)).toNat = A → Gs X d 90 25 [some (.ref 74), some (.int (iI place)), some (.int (iI hot)), some (.int (iI at_)), some (.int (iI ((4 : Int))))] [] (y) _
    intro y o e
    refine Gs_iload p90_25 rfl rfl ?_
    refine Gs_iconst p90_27 ?_
    refine Gs_icmp_ge (tgt := 51) p90_28 (by rfl) (by first | assumption | exact ⟨by omega, by omega⟩ | (split <;> exact ⟨by omega, by omega⟩)) (by first | assumption | exact ⟨by omega, by omega⟩ | (split <;> exact ⟨by omega, by omega⟩)) (fun hc28 => ?_) (fun hc28 => absurd ‹_› (by first | omega | assumption))
    refine Gs_iconst p90_51 ?_
    refine Gs_zret p90_52 rfl (by first | exact Or.inl rfl | exact Or.inr rfl | (split <;> first | exact Or.inl rfl | exact Or.inr rfl)) ⟨_, rfl, ?_⟩
    have e : none = A := e
    subst e
    exact ⟨rfl, o, fun p hp => (by cases hp)⟩

theorem c_isTold {X : vX} {C : Int → Int → Int} {L wt : Int} (n : Nat) : ∀ (u : St) (place hot at_ : Int) (lg : Int → Int), TPre u C L wt place n hot at_ lg → OkI X (2 * n + 5) 90 [.ref 74, .int (iI place), .int (iI hot), .int (iI at_)] u (TPost u place n (tl C wt n lg hot at_)) := by
  induction n with
  | zero => intro u place hot at_ lg h; exact c_isTold0 h
  | succ n ih => intro u place hot at_ lg h; exact c_isToldS ih h