/-! tell, the reference's side -/
theorem isA104 : isA 104 6 := rfl
theorem isA105 : isA 105 6 := rfl
theorem isA106 : isA 106 4 := rfl
theorem ckT_s {C : Int → Int → Int} {wt : Int} {n : Nat} {r : Nat → Int} {lg : Int → Int} {hot at_ : Int} : ckT C wt (n + 1) r lg hot at_ = (decide (1 ≤ lg (r 0)) && (decide (1 ≤ fedI hot (r 0)) && ckT C wt n (fun i => r (i + 1)) (up1 lg (r 0) (lg (r 0) - 1)) (fedI hot (r 0)) (C at_ (r 0)))) := rfl
theorem MFr.rfl' (s : St) : MFr s s := ⟨fun _ _ _ => rfl, fun _ _ => rfl⟩
set_option maxHeartbeats 1000000 in
set_option maxRecDepth 4000 in
theorem c_layLogs {X : vX} {s : St} {c : Int} (c0 : 0 ≤ c) (c1 : c < 4) : OkV X 1 176 [.ref 95, .int (iI c)] s (Is0 (cpS s 98 (8 + 4 * c) 106 0 4)) := by
  refine Ok.of (r := vm_m176) (ls := [some (.ref 95), some (.int (iI c))]) rfl (Nat.le_of_ble_eq_true rfl) rfl (fun d hd => ?_)
  refine Gs_aload_n p176_0 rfl rfl ?_
  refine Gs_getR p176_1 (by first | rfl | assumption | exact (show isTale _ from by assumption).1 | exact (show isCamp _ _ from by assumption).1 | exact (show isRow _ _ from by assumption).1) (by rfl) ?_
  refine Gs_bipush p176_4 (by decide) ?_
  refine Gs_iconst p176_6 ?_
  refine Gs_iload_n p176_7 rfl rfl ?_
  refine Gs_imul p176_8 ?_
  refine Gs_iadd p176_9 ?_
  refine Gs_aload_n p176_10 rfl rfl ?_
  refine Gs_getR p176_11 (by first | rfl | assumption | exact (show isTale _ from by assumption).1 | exact (show isCamp _ _ from by assumption).1 | exact (show isRow _ _ from by assumption).1) (by rfl) ?_
  refine Gs_iconst p176_14 ?_
  refine Gs_iconst p176_15 ?_
  refine Gs_callS5W p176_16 (by rfl) (Nat.le_of_ble_eq_true rfl) (by decide) (c_copies isA98 isA106 (by decide) (by omega) (by omega) (by omega) (by omega) (by omega) (by decide) (by decide)) (by omega) ?_
  refine Gs_vret p176_19 rfl ⟨rfl, ?_⟩
  rfl

set_option maxHeartbeats 4000000 in
set_option maxRecDepth 4000 in
theorem c_tellsBy {X : vX} {s : St} {C : Int → Int → Int} {L c l : Int} {n : Nat} {r : Nat → Int} (hT : MT s) (hL : L ≤ 9) (hL2 : vA s 96 0 = L) (hcl : ∀ l w, 0 ≤ l → l < L → 0 ≤ w → w < 4 → 0 ≤ C l w ∧ C l w < L) (hCf : ∀ l w, 0 ≤ l → l < L → 0 ≤ w → w < 4 → cfM s l w = C l w) (hm : MC s 98 (vA s 96 2)) (c0 : 0 ≤ c) (c1 : c < vA s 96 2) (a0 : 0 ≤ vA s 98 (4 + c)) (a1 : vA s 98 (4 + c) < L) (gl : rg l) (hn : n ≤ 6) (hr : ∀ i : Nat, i < n → vA s 104 i = r i ∧ 0 ≤ r i ∧ r i < 4) : OkI X 3 181 [.ref 95, .int (iI c), .int (iI l), .int (iI (n : Int))] s (fun z t => z = (if ckT C l n r (fun x => vA s 98 (8 + 4 * c + x)) (vA s 98 (0 + c)) (vA s 98 (4 + c)) = true then 1 else 0) ∧ (∀ a z, a ≠ 106 → vA t a z = vA s a z) ∧ (∀ a k, vF t a k = vF s a k)) := by
  refine Ok.of (r := vm_m181) (ls := [some (.ref 95), some (.int (iI c)), some (.int (iI l)), some (.int (iI (n : Int))), none, none, none]) rfl (Nat.le_of_ble_eq_true rfl) rfl (fun d hd => ?_)
  obtain ⟨x1, x2, x3, x4, x5, x6, x7, x8⟩ := id hT
  obtain ⟨m1, m2, m3, m4⟩ := id hm
  have e98 : ∀ z, vA (cpS s 98 (8 + 4 * c) 106 0 4) 98 z = vA s 98 z := fun z => by rw [cpS_A, if_neg (by omega)]
  have hh := m3 (0 + c) (by omega) (by omega)
  have l0 : ∀ x, 0 ≤ x → x < 4 → vA (cpS s 98 (8 + 4 * c) 106 0 4) 106 x = vA s 98 (8 + 4 * c + x) ∧ 0 ≤ vA s 98 (8 + 4 * c + x) ∧ vA s 98 (8 + 4 * c + x) ≤ 200 := fun x a b => by
    have := (m4 c c0 c1).2.2.2 x a b
    refine ⟨?_, this.1, by omega⟩
    rw [cpS_A, if_pos ⟨rfl, a, by omega⟩]
    congr 1; omega
  generalize hA : ckT C l n r (fun x => vA s 98 (8 + 4 * c + x)) (vA s 98 (0 + c)) (vA s 98 (4 + c)) = A
  refine Gs_aload_n p181_0 rfl rfl ?_
  refine Gs_getR p181_1 (by first | rfl | assumption | exact (show isTale _ from by assumption).1 | exact (show isCamp _ _ from by assumption).1 | exact (show isRow _ _ from by assumption).1) (by rfl) ?_
  refine Gs_iconst p181_4 ?_
  refine Gs_iload_n p181_5 rfl rfl ?_
  refine Gs_iadd p181_6 ?_
  refine Gs_iald p181_7 (by first | rfl | assumption | exact (show isTale _ from by assumption).1 | exact (show isCamp _ _ from by assumption).1 | exact (show isRow _ _ from by assumption).1) (by omega) (by omega) (by omega) ?_
  refine Gs_ist4 p181_8 (by first | rfl | assumption) ?_
  refine Gs_aload_n p181_10 rfl rfl ?_
  refine Gs_getR p181_11 (by first | rfl | assumption | exact (show isTale _ from by assumption).1 | exact (show isCamp _ _ from by assumption).1 | exact (show isRow _ _ from by assumption).1) (by rfl) ?_
  refine Gs_iconst p181_14 ?_
  refine Gs_iload_n p181_15 rfl rfl ?_
  refine Gs_iadd p181_16 ?_
  refine Gs_iald p181_17 (by first | rfl | assumption | exact (show isTale _ from by assumption).1 | exact (show isCamp _ _ from by assumption).1 | exact (show isRow _ _ from by assumption).1) (by omega) (by omega) (by omega) ?_
  refine Gs_ist5 p181_18 (by first | rfl | assumption) ?_
  refine Gs_aload_n p181_20 rfl rfl ?_
  refine Gs_iload_n p181_21 rfl rfl ?_
  refine Gs_callV1W p181_22 (by rfl) (by rfl) (by first | rfl | assumption | exact (show isTale _ from by assumption).1 | exact (show isCamp _ _ from by assumption).1 | exact (show isRow _ _ from by assumption).1) (Nat.le_of_ble_eq_true rfl) (by decide) (c_layLogs c0 (by omega)) (by omega) ?_
  refine Gs_iconst p181_25 ?_
  refine Gs_ist6 p181_26 (by first | rfl | assumption) ?_
  refine dn (n := ((n : Nat) : Int)) (P := fun k => ∀ (y : St) (hot at_ : Int) (lg : Int → Int), (∀ a z, a ≠ 106 → vA y a z = vA s a z) → (∀ a f, vF y a f = vF s a f) → (∀ x, 0 ≤ x → x < 4 → vA y 106 x = lg x ∧ 0 ≤ lg x ∧ lg x ≤ 200) → 0 ≤ hot → hot ≤ 20 → 0 ≤ at_ → at_ < L → ckT C l (n - k.toNat) (fun i => r (k.toNat + i)) lg hot at_ = A → Gs X d 181 28 [some (.ref 95), some (.int (iI c)), some (.int (iI l)), some (.int (iI (n : Int))), some (.int (iI hot)), some (.int (iI at_)), some (.int (iI k))] [] (y) (fun vv yy => ∃ zz : Int, vv = some (.int (iI zz)) ∧ (fun z t => z = (if A = true then 1 else 0) ∧ (∀ a z, a ≠ 106 → vA t a z = vA s a z) ∧ (∀ a k, vF t a k = vF s a k)) zz yy)) (by omega) (fun k hk hkn ih => ?_) ?_ _ _ _ (fun x => vA s 98 (8 + 4 * c + x)) (fun a z h => by rw [cpS_A, if_neg (fun q => h q.1)]) (fun _ _ => rfl) l0 hh.1 hh.2 a0 a1 (by rw [← hA]; exact ckT_cong n _ _ _ _ _ (fun i hi => by show r ((0 : Int).toNat + i) = r i; rw [show (0 : Int).toNat + i = i by omega]))
  · show ∀ (y : St) (hot at_ : Int) (lg : Int → Int), (∀ a z, a ≠ 106 → vA y a z = vA s a z) → (∀ a f, vF y a f = vF s a f) → (∀ x, 0 ≤ x → x < 4 → vA y 106 x = lg x ∧ 0 ≤ lg x ∧ lg x ≤ 200) → 0 ≤ hot → hot ≤ 20 → 0 ≤ at_ → at_ < L → ckT C l (n - k.toNat) (fun i => r (k.toNat + i)) lg hot at_ = A → Gs X d 181 28 [some (.ref 95), some (.int (iI c)), some (.int (iI l)), some (.int (iI (n : Int))), some (.int (iI hot)), some (.int (iI at_)), some (.int (iI k))] [] (y) _
    intro y hot at_ lg ya yf yl h0 h1 b0 b1 e
    rw [show n - k.toNat = (n - (k + 1).toNat) + 1 by omega, ckT_s] at e
    have rk := hr k.toNat (by omega)
    rw [show ((k.toNat : Nat) : Int) = k by omega] at rk
    have er : r (k.toNat + 0) = r k.toNat := rfl
    have ec : ckT C l (n - (k + 1).toNat) (fun i => r (k.toNat + (i + 1))) (up1 lg (r k.toNat) (lg (r k.toNat) - 1)) (fedI hot (r k.toNat)) (C at_ (r k.toNat)) = ckT C l (n - (k + 1).toNat) (fun i => r ((k + 1).toNat + i)) (up1 lg (r k.toNat) (lg (r k.toNat) - 1)) (fedI hot (r k.toNat)) (C at_ (r k.toNat)) := ckT_cong _ _ _ _ _ _ (fun i hi => by show r (k.toNat + (i + 1)) = r ((k + 1).toNat + i); congr 1; omega)
    have e : (decide (1 ≤ lg (r k.toNat)) && (decide (1 ≤ fedI hot (r k.toNat)) && ckT C l (n - (k + 1).toNat) (fun i => r (k.toNat + (i + 1))) (up1 lg (r k.toNat) (lg (r k.toNat) - 1)) (fedI hot (r k.toNat)) (C at_ (r k.toNat)))) = A := e
    have lk := yl (r k.toNat) rk.2.1 rk.2.2
    have hf := fedI_b hot (r k.toNat)
    have f96 : ∀ z, vA y 96 z = vA s 96 z := fun z => ya 96 z (by decide)
    have y104 : vA y 104 k = r k.toNat := (ya 104 k (by decide)).trans rk.1
    have z104 : ∀ v, vA (sA y 106 (r k.toNat) v) 104 k = r k.toNat := fun v => by rw [vA_sA, if_neg (by omega)]; exact y104
    have g96 : ∀ v z, vA (sA y 106 (r k.toNat) v) 96 z = vA s 96 z := fun v z => by rw [vA_sA, if_neg (by omega)]; exact f96 z
    have cc := hcl at_ (r k.toNat) b0 b1 rk.2.1 rk.2.2
    have eC : ∀ v, cfM (sA y 106 (r k.toNat) v) at_ (r k.toNat) = C at_ (r k.toNat) := fun v => by rw [show cfM (sA y 106 (r k.toNat) v) at_ (r k.toNat) = cfM s at_ (r k.toNat) by unfold cfM; rw [bhM_cong (g96 v)], hCf _ _ b0 b1 rk.2.1 rk.2.2]
    refine Gs_iload p181_28 rfl rfl ?_
    refine Gs_iload_n p181_30 rfl rfl ?_
    refine Gs_icmp_ge (tgt := 109) p181_31 (by rfl) (by first | assumption | exact ⟨by omega, by omega⟩ | (split <;> exact ⟨by omega, by omega⟩)) (by first | assumption | exact ⟨by omega, by omega⟩ | (split <;> exact ⟨by omega, by omega⟩)) (fun hc31 => absurd ‹_› (by first | omega | assumption)) (fun hc31 => ?_)
    refine Gs_aload_n p181_34 rfl rfl ?_
    refine Gs_getR p181_35 (by first | rfl | assumption | exact (show isTale _ from by assumption).1 | exact (show isCamp _ _ from by assumption).1 | exact (show isRow _ _ from by assumption).1) (by rfl) ?_
    refine Gs_aload_n p181_38 rfl rfl ?_
    refine Gs_getR p181_39 (by first | rfl | assumption | exact (show isTale _ from by assumption).1 | exact (show isCamp _ _ from by assumption).1 | exact (show isRow _ _ from by assumption).1) (by rfl) ?_
    refine Gs_iload p181_42 rfl rfl ?_
    refine Gs_iald p181_44 (by first | rfl | assumption | exact (show isTale _ from by assumption).1 | exact (show isCamp _ _ from by assumption).1 | exact (show isRow _ _ from by assumption).1) (by omega) (by omega) (by omega) ?_
    rw [y104]
    refine Gs_iald p181_45 (by first | rfl | assumption | exact (show isTale _ from by assumption).1 | exact (show isCamp _ _ from by assumption).1 | exact (show isRow _ _ from by assumption).1) (by omega) (by omega) (by omega) ?_
    rw [lk.1]
    refine Gs_if_ne (tgt := 51) p181_46 (by rfl) (by first | assumption | exact ⟨by omega, by omega⟩ | (split <;> exact ⟨by omega, by omega⟩)) (fun h46 => ?_) (fun h46 => ?_)
    · refine Gs_aload_n p181_51 rfl rfl ?_
      refine Gs_getR p181_52 (by first | rfl | assumption | exact (show isTale _ from by assumption).1 | exact (show isCamp _ _ from by assumption).1 | exact (show isRow _ _ from by assumption).1) (by rfl) ?_
      refine Gs_aload_n p181_55 rfl rfl ?_
      refine Gs_getR p181_56 (by first | rfl | assumption | exact (show isTale _ from by assumption).1 | exact (show isCamp _ _ from by assumption).1 | exact (show isRow _ _ from by assumption).1) (by rfl) ?_
      refine Gs_iload p181_59 rfl rfl ?_
      refine Gs_iald p181_61 (by first | rfl | assumption | exact (show isTale _ from by assumption).1 | exact (show isCamp _ _ from by assumption).1 | exact (show isRow _ _ from by assumption).1) (by omega) (by omega) (by omega) ?_
      rw [y104]
      refine Gs_dup2 p181_62 rfl rfl ?_
      refine Gs_iald p181_63 (by first | rfl | assumption | exact (show isTale _ from by assumption).1 | exact (show isCamp _ _ from by assumption).1 | exact (show isRow _ _ from by assumption).1) (by omega) (by omega) (by omega) ?_
      rw [lk.1]
      refine Gs_iconst p181_64 ?_
      refine Gs_isub p181_65 ?_
      refine Gs_iast p181_66 (by first | rfl | assumption | exact (show isTale _ from by assumption).1 | exact (show isCamp _ _ from by assumption).1 | exact (show isRow _ _ from by assumption).1) (by omega) (by omega) (by omega) ?_
      refine Gs_iload p181_67 rfl rfl ?_
      refine Gs_aload_n p181_69 rfl rfl ?_
      refine Gs_getR p181_70 (by first | rfl | assumption | exact (show isTale _ from by assumption).1 | exact (show isCamp _ _ from by assumption).1 | exact (show isRow _ _ from by assumption).1) (by rfl) ?_
      refine Gs_iload p181_73 rfl rfl ?_
      refine Gs_iald p181_75 (by first | rfl | assumption | exact (show isTale _ from by assumption).1 | exact (show isCamp _ _ from by assumption).1 | exact (show isRow _ _ from by assumption).1) (by omega) (by omega) (by omega) ?_
      rw [z104]
      refine Gs_callS2I p181_76 (by rfl) (Nat.le_of_ble_eq_true rfl) (by decide) (c_hotter h0 h1 rk.2.1 rk.2.2) (by omega) ?_
      refine Gs_ist4 p181_79 (by first | rfl | assumption) ?_
      refine Gs_iload p181_81 rfl rfl ?_
      refine Gs_if_ne (tgt := 88) p181_83 (by rfl) (by first | assumption | exact ⟨by omega, by omega⟩ | (split <;> exact ⟨by omega, by omega⟩)) (fun h83 => ?_) (fun h83 => ?_)
      · refine Gs_aload_n p181_88 rfl rfl ?_
        refine Gs_iload p181_89 rfl rfl ?_
        refine Gs_aload_n p181_91 rfl rfl ?_
        refine Gs_getR p181_92 (by first | rfl | assumption | exact (show isTale _ from by assumption).1 | exact (show isCamp _ _ from by assumption).1 | exact (show isRow _ _ from by assumption).1) (by rfl) ?_
        refine Gs_iload p181_95 rfl rfl ?_
        refine Gs_iald p181_97 (by first | rfl | assumption | exact (show isTale _ from by assumption).1 | exact (show isCamp _ _ from by assumption).1 | exact (show isRow _ _ from by assumption).1) (by omega) (by omega) (by omega) ?_
        rw [z104]
        refine Gs_callV2I p181_98 (by rfl) (by rfl) (by rfl) (Nat.le_of_ble_eq_true rfl) (by decide) (c_mgoes (hT.cong (g96 _)) b0 (by rw [g96]; omega) rk.2.1 rk.2.2) (by omega) ?_
        rw [eC]
        refine Gs_ist5 p181_101 (by first | rfl | assumption) ?_
        refine Gs_iinc6 (b56 := none) p181_103 (by first | rfl | assumption) ?_
        refine Gs_goto (tgt := 28) p181_106 (by rfl) ?_
        refine ih _ _ _ (up1 lg (r k.toNat) (lg (r k.toNat) - 1)) (fun a z h => by rw [vA_sA, if_neg (fun q => h q.1)]; exact ya a z h) yf (fun x x0 x1 => ?_) hf.1 hf.2 cc.1 cc.2 ?_
        · rw [vA_sA, up1_at]
          by_cases ex : x = r k.toNat
          · rw [if_pos ⟨rfl, ex⟩, if_pos ex]; omega
          · rw [if_neg (fun q => ex q.2), if_neg ex]; exact yl x x0 x1
        · rw [← ec, ← e, decide_eq_true (show 1 ≤ lg (r k.toNat) by omega), decide_eq_true (show 1 ≤ fedI hot (r k.toNat) by omega)]
          rfl
      · refine Gs_iconst p181_86 ?_
        refine Gs_zret p181_87 rfl (by first | exact Or.inl rfl | exact Or.inr rfl | (split <;> first | exact Or.inl rfl | exact Or.inr rfl)) ⟨_, rfl, ?_⟩
        refine ⟨?_, fun a z h => by rw [vA_sA, if_neg (fun q => h q.1)]; exact ya a z h, yf⟩
        rw [← e, decide_eq_true (show 1 ≤ lg (r k.toNat) by omega), decide_eq_false (show ¬ 1 ≤ fedI hot (r k.toNat) by omega)]
        rfl
    · refine Gs_iconst p181_49 ?_
      refine Gs_zret p181_50 rfl (by first | exact Or.inl rfl | exact Or.inr rfl | (split <;> first | exact Or.inl rfl | exact Or.inr rfl)) ⟨_, rfl, ?_⟩
      refine ⟨?_, ya, yf⟩
      rw [← e, decide_eq_false (show ¬ 1 ≤ lg (r k.toNat) by omega)]
      rfl
  · show ∀ (y : St) (hot at_ : Int) (lg : Int → Int), (∀ a z, a ≠ 106 → vA y a z = vA s a z) → (∀ a f, vF y a f = vF s a f) → (∀ x, 0 ≤ x → x < 4 → vA y 106 x = lg x ∧ 0 ≤ lg x ∧ lg x ≤ 200) → 0 ≤ hot → hot ≤ 20 → 0 ≤ at_ → at_ < L → ckT C l (n - (((n : Nat) : Int)).toNat) (fun i => r ((((n : Nat) : Int)).toNat + i)) lg hot at_ = A → Gs X d 181 28 [some (.ref 95), some (.int (iI c)), some (.int (iI l)), some (.int (iI (n : Int))), some (.int (iI hot)), some (.int (iI at_)), some (.int (iI (((n : Nat) : Int))))] [] (y) _
    intro y hot at_ lg ya yf yl h0 h1 b0 b1 e
    rw [show n - ((n : Nat) : Int).toNat = 0 by omega] at e
    have e : decide (at_ = l) = A := e
    refine Gs_iload p181_28 rfl rfl ?_
    refine Gs_iload_n p181_30 rfl rfl ?_
    refine Gs_icmp_ge (tgt := 109) p181_31 (by rfl) (by first | assumption | exact ⟨by omega, by omega⟩ | (split <;> exact ⟨by omega, by omega⟩)) (by first | assumption | exact ⟨by omega, by omega⟩ | (split <;> exact ⟨by omega, by omega⟩)) (fun hc31 => ?_) (fun hc31 => absurd ‹_› (by first | omega | assumption))
    refine Gs_iload p181_109 rfl rfl ?_
    refine Gs_iload_n p181_111 rfl rfl ?_
    refine Gs_icmp_ne (tgt := 119) p181_112 (by rfl) (by first | assumption | exact ⟨by omega, by omega⟩ | (split <;> exact ⟨by omega, by omega⟩)) (by first | assumption | exact ⟨by omega, by omega⟩ | (split <;> exact ⟨by omega, by omega⟩)) (fun h112 => ?_) (fun h112 => ?_)
    · refine Gs_iconst p181_119 ?_
      refine Gs_zret p181_120 rfl (by first | exact Or.inl rfl | exact Or.inr rfl | (split <;> first | exact Or.inl rfl | exact Or.inr rfl)) ⟨_, rfl, ?_⟩
      refine ⟨?_, ya, yf⟩
      rw [← e]
      first
        | (rw [decide_eq_true (show at_ = l by omega)]; rfl)
        | (rw [decide_eq_false (show ¬ at_ = l by omega)]; rfl)
    · refine Gs_iconst p181_115 ?_
      refine Gs_goto (tgt := 120) p181_116 (by rfl) ?_
      refine Gs_zret p181_120 rfl (by first | exact Or.inl rfl | exact Or.inr rfl | (split <;> first | exact Or.inl rfl | exact Or.inr rfl)) ⟨_, rfl, ?_⟩
      refine ⟨?_, ya, yf⟩
      rw [← e]
      first
        | (rw [decide_eq_true (show at_ = l by omega)]; rfl)
        | (rw [decide_eq_false (show ¬ at_ = l by omega)]; rfl)

def PMl (s : St) (R : Option (Nat × (Nat → Int))) (z : Int) (t : St) : Prop := MFr s t ∧ match R with
  | none => z = -4
  | some (n, p) => z = n ∧ n ≤ 6 ∧ ∀ i : Nat, i < n → vA t 104 i = p i
theorem PMl.b {s t : St} {R : Option (Nat × (Nat → Int))} {z : Int} (h : PMl s R z t) : -4 ≤ z ∧ z ≤ 6 := by
  have h2 := h.2
  split at h2
  · omega
  · omega
theorem PMl.a1 {s t : St} {R : Option (Nat × (Nat → Int))} {z k : Int} (h : PMl s R z t) (hk : k = -1 ∨ z = -4) : ansT R k = z := by
  have h2 := h.2
  unfold ansT
  split at h2
  · exact h2.symm
  · show (if k = -1 then _ else _) = _
    rw [if_pos (by omega)]; exact h2.1.symm
theorem PMl.a2 {s t : St} {R : Option (Nat × (Nat → Int))} {z k : Int} (h : PMl s R z t) (hk : 0 ≤ k) (hz : ¬ z = -4) : ansT R k = if k < z then vA t 104 k else -4 := by
  have h2 := h.2
  unfold ansT
  split at h2
  · exact absurd h2 hz
  · obtain ⟨q1, q2, q5⟩ := h2
    rw [q1]
    show (if k = -1 then _ else _) = _
    rw [if_neg (by omega)]
    split
    · have := q5 k.toNat (by omega)
      rw [show ((k.toNat : Nat) : Int) = k by omega] at this
      exact this.symm
    · rfl
theorem dg_step {b n c t : Nat} (ht : t < n) : (c / b ^ t) % b = dgN b n c (n - 1 - t) := by
  unfold dgN
  rw [show n - 1 - (n - 1 - t) = t by omega]
theorem dg_next {b c t : Nat} : c / b ^ t / b = c / b ^ (t + 1) := by rw [Nat.div_div_eq_div_mul, ← Nat.pow_succ]
set_option maxHeartbeats 8000000 in
set_option maxRecDepth 4000 in
theorem c_tellsFor {X : vX} {s : St} {C : Int → Int → Int} {L c l : Int} (hT : MT s) (hL : L ≤ 9) (hL2 : vA s 96 0 = L) (hcl : ∀ l w, 0 ≤ l → l < L → 0 ≤ w → w < 4 → 0 ≤ C l w ∧ C l w < L) (hCf : ∀ l w, 0 ≤ l → l < L → 0 ≤ w → w < 4 → cfM s l w = C l w) (hm : MC s 98 (vA s 96 2)) (c0 : 0 ≤ c) (c1 : c < vA s 96 2) (a0 : 0 ≤ vA s 98 (4 + c)) (a1 : vA s 98 (4 + c) < L) (gl : rg l) : OkI X 4 182 [.ref 95, .int (iI c), .int (iI l)] s (PMl s (tlA C l (fun x => vA s 98 (8 + 4 * c + x)) (vA s 98 (0 + c)) (vA s 98 (4 + c)) 7 0)) := by
  refine Ok.of (r := vm_m182) (ls := [some (.ref 95), some (.int (iI c)), some (.int (iI l)), none, none, none, none, none]) rfl (Nat.le_of_ble_eq_true rfl) rfl (fun d hd => ?_)
  generalize hR : tlA C l (fun x => vA s 98 (8 + 4 * c + x)) (vA s 98 (0 + c)) (vA s 98 (4 + c)) 7 0 = R
  refine Gs_iconst p182_0 ?_
  refine Gs_ist3 p182_1 (by first | rfl | assumption) ?_
  refine Gs_iconst p182_2 ?_
  refine Gs_ist4 p182_3 (by first | rfl | assumption) ?_
  rw [show (1 : Int) = ((4 ^ (0 : Int).toNat : Nat) : Int) from rfl]
  refine dn (n := (7 : Int)) (P := fun i => ∀ (y : St) (b5 b6 b7 : Option Value), MFr s y → tlA C l (fun x => vA s 98 (8 + 4 * c + x)) (vA s 98 (0 + c)) (vA s 98 (4 + c)) (7 - i).toNat i.toNat = R → Gs X d 182 5 [some (.ref 95), some (.int (iI c)), some (.int (iI l)), some (.int (iI ((4 ^ i.toNat : Nat) : Int))), some (.int (iI i)), b5, b6, b7] [] (y) (fun vv yy => ∃ zz : Int, vv = some (.int (iI zz)) ∧ (PMl s R) zz yy)) (by omega) (fun i hi hin ih => ?_) ?_ _ none none none (MFr.rfl' s) hR
  · show ∀ (y : St) (b5 b6 b7 : Option Value), MFr s y → tlA C l (fun x => vA s 98 (8 + 4 * c + x)) (vA s 98 (0 + c)) (vA s 98 (4 + c)) (7 - i).toNat i.toNat = R → Gs X d 182 5 [some (.ref 95), some (.int (iI c)), some (.int (iI l)), some (.int (iI ((4 ^ i.toNat : Nat) : Int))), some (.int (iI i)), b5, b6, b7] [] (y) _
    intro y b5 b6 b7 o e
    rw [show (7 - i).toNat = (7 - (i + 1)).toNat + 1 by omega, tlA_s, show i.toNat + 1 = (i + 1).toNat by omega] at e
    have pw : 4 ^ i.toNat ≤ 4 ^ 6 := Nat.pow_le_pow_right (by decide) (by omega)
    have pw : 4 ^ i.toNat ≤ 4096 := pw
    have pwI : 0 ≤ ((4 ^ i.toNat : Nat) : Int) := Int.natCast_nonneg _
    refine Gs_iload p182_5 rfl rfl ?_
    refine Gs_bipush p182_7 (by decide) ?_
    refine Gs_icmp_ge (tgt := 89) p182_9 (by rfl) (by first | assumption | exact ⟨by omega, by omega⟩ | (split <;> exact ⟨by omega, by omega⟩)) (by first | assumption | exact ⟨by omega, by omega⟩ | (split <;> exact ⟨by omega, by omega⟩)) (fun hc9 => absurd ‹_› (by first | omega | assumption)) (fun hc9 => ?_)
    refine Gs_iconst p182_12 ?_
    refine Gs_ist5 p182_13 (by first | rfl | assumption) ?_
    refine dn (n := ((4 ^ i.toNat : Nat) : Int)) (P := fun q => ∀ (y : St) (b6 b7 : Option Value), MFr s y → (∀ c' : Nat, (c' : Int) < q → ckT C l i.toNat (dgI 4 i.toNat c') (fun x => vA s 98 (8 + 4 * c + x)) (vA s 98 (0 + c)) (vA s 98 (4 + c)) = false) → Gs X d 182 15 [some (.ref 95), some (.int (iI c)), some (.int (iI l)), some (.int (iI ((4 ^ i.toNat : Nat) : Int))), some (.int (iI i)), some (.int (iI q)), b6, b7] [] (y) (fun vv yy => ∃ zz : Int, vv = some (.int (iI zz)) ∧ (PMl s R) zz yy)) (Int.natCast_nonneg _) (fun q hq hqn ihq => ?_) ?_ _ _ _ o (fun c' h => absurd h (by omega))
    · show ∀ (y : St) (b6 b7 : Option Value), MFr s y → (∀ c' : Nat, (c' : Int) < q → ckT C l i.toNat (dgI 4 i.toNat c') (fun x => vA s 98 (8 + 4 * c + x)) (vA s 98 (0 + c)) (vA s 98 (4 + c)) = false) → Gs X d 182 15 [some (.ref 95), some (.int (iI c)), some (.int (iI l)), some (.int (iI ((4 ^ i.toNat : Nat) : Int))), some (.int (iI i)), some (.int (iI q)), b6, b7] [] (y) _
      intro y b6 b7 o yq
      refine Gs_iload p182_15 rfl rfl ?_
      refine Gs_iload_n p182_17 rfl rfl ?_
      refine Gs_icmp_ge (tgt := 79) p182_18 (by rfl) (by first | assumption | exact ⟨by omega, by omega⟩ | (split <;> exact ⟨by omega, by omega⟩)) (by first | assumption | exact ⟨by omega, by omega⟩ | (split <;> exact ⟨by omega, by omega⟩)) (fun hc18 => absurd ‹_› (by first | omega | assumption)) (fun hc18 => ?_)
      refine Gs_iload p182_21 rfl rfl ?_
      refine Gs_ist6 p182_23 (by first | rfl | assumption) ?_
      refine Gs_iload p182_25 rfl rfl ?_
      refine Gs_iconst p182_27 ?_
      refine Gs_isub p182_28 ?_
      refine Gs_ist7 p182_29 (by first | rfl | assumption) ?_
      refine dn (n := i) (P := fun t => ∀ (y : St) (rest kk : Int), kk = i - 1 - t → rest = ((q.toNat / 4 ^ t.toNat : Nat) : Int) → MFr s y → (∀ j : Nat, kk < (j : Int) → (j : Int) < i → vA y 104 j = dgI 4 i.toNat q.toNat j) → Gs X d 182 31 [some (.ref 95), some (.int (iI c)), some (.int (iI l)), some (.int (iI ((4 ^ i.toNat : Nat) : Int))), some (.int (iI i)), some (.int (iI q)), some (.int (iI rest)), some (.int (iI kk))] [] (y) (fun vv yy => ∃ zz : Int, vv = some (.int (iI zz)) ∧ (PMl s R) zz yy)) hi (fun t ht htn iht => ?_) ?_ _ q _ (by omega) (by rw [show (0 : Int).toNat = 0 from rfl, Nat.pow_zero, Nat.div_one]; omega) o (fun j j0 j1 => absurd j1 (by omega))
      · show ∀ (y : St) (rest kk : Int), kk = i - 1 - t → rest = ((q.toNat / 4 ^ t.toNat : Nat) : Int) → MFr s y → (∀ j : Nat, kk < (j : Int) → (j : Int) < i → vA y 104 j = dgI 4 i.toNat q.toNat j) → Gs X d 182 31 [some (.ref 95), some (.int (iI c)), some (.int (iI l)), some (.int (iI ((4 ^ i.toNat : Nat) : Int))), some (.int (iI i)), some (.int (iI q)), some (.int (iI rest)), some (.int (iI kk))] [] (y) _
        intro y rest kk hkk hre o2 yj
        have rb : q.toNat / 4 ^ t.toNat ≤ q.toNat := Nat.div_le_self _ _
        generalize hv : q.toNat / 4 ^ t.toNat = v at hre rb
        refine Gs_iload p182_31 rfl rfl ?_
        refine Gs_if_lt (tgt := 59) p182_33 (by rfl) (by first | assumption | exact ⟨by omega, by omega⟩ | (split <;> exact ⟨by omega, by omega⟩)) (fun hc33 => absurd ‹_› (by first | omega | assumption)) (fun hc33 => ?_)
        refine Gs_aload_n p182_36 rfl rfl ?_
        refine Gs_getR p182_37 (by first | rfl | assumption | exact (show isTale _ from by assumption).1 | exact (show isCamp _ _ from by assumption).1 | exact (show isRow _ _ from by assumption).1) (by rfl) ?_
        refine Gs_iload p182_40 rfl rfl ?_
        refine Gs_iload p182_42 rfl rfl ?_
        refine Gs_iconst p182_44 ?_
        refine Gs_irem p182_45 (by omega) (by omega) (by omega) (by omega) ?_
        refine Gs_iast p182_46 (by first | rfl | assumption | exact (show isTale _ from by assumption).1 | exact (show isCamp _ _ from by assumption).1 | exact (show isRow _ _ from by assumption).1) (by omega) (by omega) (by omega) ?_
        refine Gs_iload p182_47 rfl rfl ?_
        refine Gs_iconst p182_49 ?_
        refine Gs_idiv p182_50 (by omega) (by omega) (by omega) (by omega) ?_
        refine Gs_ist6 p182_51 (by first | rfl | assumption) ?_
        refine Gs_iinc7 (b57 := none) p182_53 (by first | rfl | assumption) ?_
        refine Gs_goto (tgt := 31) p182_56 (by rfl) ?_
        have ih2 := iht (sA y 104 kk (rest % 4)) (rest / 4) (kk + -1) (by omega) ?_ ⟨fun a z h => by rw [vA_sA, if_neg (by omega)]; exact o2.1 a z h, o2.2⟩ (fun j j0 j1 => ?_)
        · exact ih2
        · rw [hre, show (t + 1).toNat = t.toNat + 1 by omega, ← dg_next, hv]
          omega
        · rw [vA_sA]
          by_cases ej : (j : Int) = kk
          · rw [if_pos ⟨rfl, ej⟩, hre]
            unfold dgI
            rw [show j = i.toNat - 1 - t.toNat by omega, ← dg_step (by omega), hv]
            omega
          · rw [if_neg (fun r => ej r.2)]; exact yj j (by omega) j1
      · show ∀ (y : St) (rest kk : Int), kk = i - 1 - (i) → rest = ((q.toNat / 4 ^ (i).toNat : Nat) : Int) → MFr s y → (∀ j : Nat, kk < (j : Int) → (j : Int) < i → vA y 104 j = dgI 4 i.toNat q.toNat j) → Gs X d 182 31 [some (.ref 95), some (.int (iI c)), some (.int (iI l)), some (.int (iI ((4 ^ i.toNat : Nat) : Int))), some (.int (iI i)), some (.int (iI q)), some (.int (iI rest)), some (.int (iI kk))] [] (y) _
        intro y rest kk hkk hre o2 yj
        refine Gs_iload p182_31 rfl rfl ?_
        refine Gs_if_lt (tgt := 59) p182_33 (by rfl) (by first | assumption | exact ⟨by omega, by omega⟩ | (split <;> exact ⟨by omega, by omega⟩)) (fun hc33 => ?_) (fun hc33 => absurd ‹_› (by first | omega | assumption))
        have B := c_tellsBy (X := X) (s := y) (C := C) (L := L) (c := c) (l := l) (n := i.toNat) (r := dgI 4 i.toNat q.toNat) (hT.cong (fun z => o2.1 96 z (by decide))) hL (by rw [o2.1 _ _ (by decide)]; exact hL2) hcl (fun l w x1 x2 x3 x4 => by rw [show cfM y l w = cfM s l w by unfold cfM; rw [bhM_cong (fun z => o2.1 96 z (by decide))]]; exact hCf l w x1 x2 x3 x4) (by rw [o2.1 _ _ (by decide)]; exact hm.cong (fun z => o2.1 98 z (by decide))) c0 (by rw [o2.1 _ _ (by decide)]; exact c1) (by rw [o2.1 _ _ (by decide)]; exact a0) (by rw [o2.1 _ _ (by decide)]; exact a1) gl (by omega) (fun j hj => ⟨yj j (by omega) (by omega), by unfold dgI; omega, by unfold dgI; have := dgN_lt (b := 4) (n := i.toNat) (c := q.toNat) (i := j) (by decide); omega⟩)
        rw [o2.1 _ _ (by decide), o2.1 _ _ (by decide), show (fun x => vA y 98 (8 + 4 * c + x)) = (fun x => vA s 98 (8 + 4 * c + x)) from funext (fun x => o2.1 _ _ (by decide)), show ((i.toNat : Nat) : Int) = i by omega] at B
        have m2 : ∀ {t}, (∀ a z, a ≠ 106 → vA t a z = vA y a z) ∧ (∀ a k, vF t a k = vF y a k) → MFr s t := fun g => ⟨fun a z h => (g.1 a z (by omega)).trans (o2.1 a z h), fun a k => (g.2 a k).trans (o2.2 a k)⟩
        refine Gs_aload_n p182_59 rfl rfl ?_
        refine Gs_iload_n p182_60 rfl rfl ?_
        refine Gs_iload_n p182_61 rfl rfl ?_
        refine Gs_iload p182_62 rfl rfl ?_
        refine Gs_callV3i p182_64 (by rfl) (by rfl) (by rfl) (Nat.le_of_ble_eq_true rfl) (by decide) (B) (by omega) (fun z64 s64 h64 => ?_)
        rw [h64.1]
        refine Gs_ifb_eq (tgt := 73) p182_67 (by rfl) (fun h67 => ?_) (fun h67 => ?_)
        · refine Gs_iinc5 (b55 := none) p182_73 (by first | rfl | assumption) ?_
          refine Gs_goto (tgt := 15) p182_76 (by rfl) ?_
          refine ihq _ _ _ (m2 h64.2) (fun c' hc' => ?_)
          by_cases ec : c' = q.toNat
          · rw [ec]; exact Bool.eq_false_iff.mpr h67
          · exact yq c' (by omega)
        · refine Gs_iload p182_70 rfl rfl ?_
          refine Gs_iret p182_72 rfl ⟨_, rfl, ?_⟩
          have fs := tl_ok (C := C) (wt := l) i.toNat (fun x => vA s 98 (8 + 4 * c + x)) (vA s 98 (0 + c)) (vA s 98 (4 + c))
          cases eo : tl C l i.toNat (fun x => vA s 98 (8 + 4 * c + x)) (vA s 98 (0 + c)) (vA s 98 (4 + c)) with
          | none => exact absurd (h67.symm.trans (fs.1 eo q.toNat (Nat.zero_le _) (by omega))) (by decide)
          | some p =>
            rw [eo] at e
            have e : some (i.toNat, p) = R := e
            subst e
            obtain ⟨d0, _, d2, d3, d4, d5⟩ := fs.2 p eo
            have dq : d0 = q.toNat := by
              rcases Nat.lt_trichotomy d0 q.toNat with h | h | h
              · exact absurd (d4.symm.trans (yq d0 (by omega))) (by decide)
              · exact h
              · exact absurd (h67.symm.trans (d5 q.toNat (Nat.zero_le _) h)) (by decide)
            subst dq
            exact ⟨m2 h64.2, by omega, by omega, fun j hj => by rw [d3 j hj, h64.2.1 104 _ (by decide)]; exact yj j (by omega) (by omega)⟩
    · show ∀ (y : St) (b6 b7 : Option Value), MFr s y → (∀ c' : Nat, (c' : Int) < (((4 ^ i.toNat : Nat) : Int)) → ckT C l i.toNat (dgI 4 i.toNat c') (fun x => vA s 98 (8 + 4 * c + x)) (vA s 98 (0 + c)) (vA s 98 (4 + c)) = false) → Gs X d 182 15 [some (.ref 95), some (.int (iI c)), some (.int (iI l)), some (.int (iI ((4 ^ i.toNat : Nat) : Int))), some (.int (iI i)), some (.int (iI (((4 ^ i.toNat : Nat) : Int)))), b6, b7] [] (y) _
      intro y b6 b7 o yq
      refine Gs_iload p182_15 rfl rfl ?_
      refine Gs_iload_n p182_17 rfl rfl ?_
      refine Gs_icmp_ge (tgt := 79) p182_18 (by rfl) (by first | assumption | exact ⟨by omega, by omega⟩ | (split <;> exact ⟨by omega, by omega⟩)) (by first | assumption | exact ⟨by omega, by omega⟩ | (split <;> exact ⟨by omega, by omega⟩)) (fun hc18 => ?_) (fun hc18 => absurd ‹_› (by first | omega | assumption))
      refine Gs_iload_n p182_79 rfl rfl ?_
      refine Gs_iconst p182_80 ?_
      refine Gs_imul p182_81 ?_
      refine Gs_ist3 p182_82 (by first | rfl | assumption) ?_
      refine Gs_iinc4 (b54 := none) p182_83 (by first | rfl | assumption) ?_
      refine Gs_goto (tgt := 5) p182_86 (by rfl) ?_
      have fs := tl_ok (C := C) (wt := l) i.toNat (fun x => vA s 98 (8 + 4 * c + x)) (vA s 98 (0 + c)) (vA s 98 (4 + c))
      have en : tl C l i.toNat (fun x => vA s 98 (8 + 4 * c + x)) (vA s 98 (0 + c)) (vA s 98 (4 + c)) = none := by
        cases eo : tl C l i.toNat (fun x => vA s 98 (8 + 4 * c + x)) (vA s 98 (0 + c)) (vA s 98 (4 + c)) with
        | none => rfl
        | some p =>
          obtain ⟨d0, _, d2, d3, d4, d5⟩ := fs.2 p eo
          exact absurd (d4.symm.trans (yq d0 (by omega))) (by decide)
      rw [en] at e
      have ih3 := ih y (some (.int (iI ((4 ^ i.toNat : Nat) : Int)))) b6 b7 o e
      rw [show ((4 ^ (i + 1).toNat : Nat) : Int) = ((4 ^ i.toNat : Nat) : Int) * 4 by rw [show (i + 1).toNat = i.toNat + 1 by omega, Nat.pow_succ]; omega] at ih3
      exact ih3
  · show ∀ (y : St) (b5 b6 b7 : Option Value), MFr s y → tlA C l (fun x => vA s 98 (8 + 4 * c + x)) (vA s 98 (0 + c)) (vA s 98 (4 + c)) (7 - ((7 : Int))).toNat ((7 : Int)).toNat = R → Gs X d 182 5 [some (.ref 95), some (.int (iI c)), some (.int (iI l)), some (.int (iI ((4 ^ ((7 : Int)).toNat : Nat) : Int))), some (.int (iI ((7 : Int)))), b5, b6, b7] [] (y) _
    intro y b5 b6 b7 o e
    refine Gs_iload p182_5 rfl rfl ?_
    refine Gs_bipush p182_7 (by decide) ?_
    refine Gs_icmp_ge (tgt := 89) p182_9 (by rfl) (by first | assumption | exact ⟨by omega, by omega⟩ | (split <;> exact ⟨by omega, by omega⟩)) (by first | assumption | exact ⟨by omega, by omega⟩ | (split <;> exact ⟨by omega, by omega⟩)) (fun hc9 => ?_) (fun hc9 => absurd ‹_› (by first | omega | assumption))
    refine Gs_bipush p182_89 (by decide) ?_
    refine Gs_iret p182_91 rfl ⟨_, rfl, ?_⟩
    have e : none = R := e
    subst e
    exact ⟨o, rfl⟩

set_option maxHeartbeats 1000000 in
set_option maxRecDepth 4000 in
theorem m_tell {X : vX} {s : St} {C : Int → Int → Int} {L c l k : Int} (hT : MT s) (hL : L ≤ 9) (hL2 : vA s 96 0 = L) (hcl : ∀ l w, 0 ≤ l → l < L → 0 ≤ w → w < 4 → 0 ≤ C l w ∧ C l w < L) (hCf : ∀ l w, 0 ≤ l → l < L → 0 ≤ w → w < 4 → cfM s l w = C l w) (hm : MC s 98 (vA s 96 2)) (c0 : 0 ≤ c) (c1 : c < vA s 96 2) (a0 : 0 ≤ vA s 98 (4 + c)) (a1 : vA s 98 (4 + c) < L) (gl : rg l) (l0 : 0 ≤ l) (l1 : l < L) (gk : rg k) (hk : -1 ≤ k) (c2 : 0 < vA s 98 c) : OkI X 5 183 [.ref 95, .int (iI c), .int (iI l), .int (iI k)] s (fun z t => z = ansT (tlA C l (fun x => vA s 98 (8 + 4 * c + x)) (vA s 98 (0 + c)) (vA s 98 (4 + c)) 7 0) k ∧ MFr s t) := by
  refine Ok.of (r := vm_m183) (ls := [some (.ref 95), some (.int (iI c)), some (.int (iI l)), some (.int (iI k)), none]) rfl (Nat.le_of_ble_eq_true rfl) rfl (fun d hd => ?_)
  obtain ⟨x1, x2, x3, x4, x5, x6, x7, x8⟩ := id hT
  refine Gs_aload_n p183_0 rfl rfl ?_
  refine Gs_iload_n p183_1 rfl rfl ?_
  refine Gs_callV1I p183_2 (by rfl) (by rfl) (by first | rfl | assumption | exact (show isTale _ from by assumption).1 | exact (show isCamp _ _ from by assumption).1 | exact (show isRow _ _ from by assumption).1) (Nat.le_of_ble_eq_true rfl) (by decide) (c_misCompany hT ⟨by omega, by omega⟩) (by omega) ?_
  refine Gs_ifb_eq (tgt := 21) p183_5 (by rfl) (fun h5 => ?_) (fun h5 => ?_)
  · refine Gs_iconst p183_21 ?_
    refine Gs_iret p183_22 rfl ⟨_, rfl, ?_⟩
    exfalso; omega
  · refine Gs_aload_n p183_8 rfl rfl ?_
    refine Gs_iload_n p183_9 rfl rfl ?_
    refine Gs_callV1I p183_10 (by rfl) (by rfl) (by first | rfl | assumption | exact (show isTale _ from by assumption).1 | exact (show isCamp _ _ from by assumption).1 | exact (show isRow _ _ from by assumption).1) (Nat.le_of_ble_eq_true rfl) (by decide) (c_misLine hT ⟨by omega, by omega⟩) (by omega) ?_
    refine Gs_ifb_eq (tgt := 21) p183_13 (by rfl) (fun h13 => ?_) (fun h13 => ?_)
    · refine Gs_iconst p183_21 ?_
      refine Gs_iret p183_22 rfl ⟨_, rfl, ?_⟩
      exfalso; omega
    · refine Gs_iload_n p183_16 rfl rfl ?_
      refine Gs_iconst p183_17 ?_
      refine Gs_icmp_ge (tgt := 23) p183_18 (by rfl) (by first | assumption | exact ⟨by omega, by omega⟩ | (split <;> exact ⟨by omega, by omega⟩)) (by first | assumption | exact ⟨by omega, by omega⟩ | (split <;> exact ⟨by omega, by omega⟩)) (fun h18 => ?_) (fun h18 => ?_)
      · refine Gs_aload_n p183_23 rfl rfl ?_
        refine Gs_iload_n p183_24 rfl rfl ?_
        refine Gs_callV1I p183_25 (by rfl) (by rfl) (by first | rfl | assumption | exact (show isTale _ from by assumption).1 | exact (show isCamp _ _ from by assumption).1 | exact (show isRow _ _ from by assumption).1) (Nat.le_of_ble_eq_true rfl) (by decide) (c_misIn hm c0 (by omega)) (by omega) ?_
        refine Gs_ifb_ne (tgt := 34) p183_28 (by rfl) (fun h28 => ?_) (fun h28 => ?_)
        · refine Gs_aload_n p183_34 rfl rfl ?_
          refine Gs_iload_n p183_35 rfl rfl ?_
          refine Gs_iload_n p183_36 rfl rfl ?_
          refine Gs_callV2i p183_37 (by rfl) (by rfl) (by rfl) (Nat.le_of_ble_eq_true rfl) (by decide) (c_tellsFor hT hL hL2 hcl hCf hm c0 c1 a0 a1 gl) (by omega) (fun z37 s37 h37 => ?_)
          have bz := h37.b
          refine Gs_ist4 p183_40 (by first | rfl | assumption) ?_
          refine Gs_iload p183_42 rfl rfl ?_
          refine Gs_bipush p183_44 (by decide) ?_
          refine Gs_icmp_eq (tgt := 54) p183_46 (by rfl) (by first | assumption | exact ⟨by omega, by omega⟩ | (split <;> exact ⟨by omega, by omega⟩)) (by first | assumption | exact ⟨by omega, by omega⟩ | (split <;> exact ⟨by omega, by omega⟩)) (fun h46 => ?_) (fun h46 => ?_)
          · refine Gs_iload p183_54 rfl rfl ?_
            refine Gs_goto (tgt := 76) p183_56 (by rfl) ?_
            refine Gs_iret p183_76 rfl ⟨_, rfl, ?_⟩
            first
              | exact ⟨(h37.a1 (by omega)).symm, h37.1⟩
              | exact ⟨by rw [h37.a2 (show 0 ≤ k by omega) (by omega), if_pos (by omega)], h37.1⟩
              | exact ⟨by rw [h37.a2 (show 0 ≤ k by omega) (by omega), if_neg (by omega)], h37.1⟩
          · refine Gs_iload_n p183_49 rfl rfl ?_
            refine Gs_iconst p183_50 ?_
            refine Gs_icmp_ne (tgt := 59) p183_51 (by rfl) (by first | assumption | exact ⟨by omega, by omega⟩ | (split <;> exact ⟨by omega, by omega⟩)) (by first | assumption | exact ⟨by omega, by omega⟩ | (split <;> exact ⟨by omega, by omega⟩)) (fun h51 => ?_) (fun h51 => ?_)
            · refine Gs_iload_n p183_59 rfl rfl ?_
              refine Gs_iload p183_60 rfl rfl ?_
              refine Gs_icmp_ge (tgt := 74) p183_62 (by rfl) (by first | assumption | exact ⟨by omega, by omega⟩ | (split <;> exact ⟨by omega, by omega⟩)) (by first | assumption | exact ⟨by omega, by omega⟩ | (split <;> exact ⟨by omega, by omega⟩)) (fun h62 => ?_) (fun h62 => ?_)
              · refine Gs_bipush p183_74 (by decide) ?_
                refine Gs_iret p183_76 rfl ⟨_, rfl, ?_⟩
                first
                  | exact ⟨(h37.a1 (by omega)).symm, h37.1⟩
                  | exact ⟨by rw [h37.a2 (show 0 ≤ k by omega) (by omega), if_pos (by omega)], h37.1⟩
                  | exact ⟨by rw [h37.a2 (show 0 ≤ k by omega) (by omega), if_neg (by omega)], h37.1⟩
              · refine Gs_aload_n p183_65 rfl rfl ?_
                refine Gs_getR p183_66 (by first | rfl | assumption | exact (show isTale _ from by assumption).1 | exact (show isCamp _ _ from by assumption).1 | exact (show isRow _ _ from by assumption).1) (by rfl) ?_
                refine Gs_iload_n p183_69 rfl rfl ?_
                refine Gs_iald p183_70 (by first | rfl | assumption | exact (show isTale _ from by assumption).1 | exact (show isCamp _ _ from by assumption).1 | exact (show isRow _ _ from by assumption).1) (by omega) (by omega) (by omega) ?_
                refine Gs_goto (tgt := 76) p183_71 (by rfl) ?_
                refine Gs_iret p183_76 rfl ⟨_, rfl, ?_⟩
                first
                  | exact ⟨(h37.a1 (by omega)).symm, h37.1⟩
                  | exact ⟨by rw [h37.a2 (show 0 ≤ k by omega) (by omega), if_pos (by omega)], h37.1⟩
                  | exact ⟨by rw [h37.a2 (show 0 ≤ k by omega) (by omega), if_neg (by omega)], h37.1⟩
            · refine Gs_iload p183_54 rfl rfl ?_
              refine Gs_goto (tgt := 76) p183_56 (by rfl) ?_
              refine Gs_iret p183_76 rfl ⟨_, rfl, ?_⟩
              first
                | exact ⟨(h37.a1 (by omega)).symm, h37.1⟩
                | exact ⟨by rw [h37.a2 (show 0 ≤ k by omega) (by omega), if_pos (by omega)], h37.1⟩
                | exact ⟨by rw [h37.a2 (show 0 ≤ k by omega) (by omega), if_neg (by omega)], h37.1⟩
        · refine Gs_bipush p183_31 (by decide) ?_
          refine Gs_iret p183_33 rfl ⟨_, rfl, ?_⟩
          exfalso; omega
      · refine Gs_iconst p183_21 ?_
        refine Gs_iret p183_22 rfl ⟨_, rfl, ?_⟩
        exfalso; omega

set_option maxHeartbeats 1000000 in
set_option maxRecDepth 4000 in
theorem m_tell_no {X : vX} {s : St} {c l k : Int} (hT : MT s) (hm : MC s 98 (vA s 96 2)) (gc : rg c) (gl : rg l) (gk : rg k) (hno : ¬ (((0 ≤ c ∧ c < vA s 96 2) ∧ (0 ≤ l ∧ l < vA s 96 0) ∧ -1 ≤ k) ∧ 0 < vA s 98 c)) : OkI X 5 183 [.ref 95, .int (iI c), .int (iI l), .int (iI k)] s (Is1 (if ((0 ≤ c ∧ c < vA s 96 2) ∧ (0 ≤ l ∧ l < vA s 96 0) ∧ -1 ≤ k) then -2 else -1) s) := by
  refine Ok.of (r := vm_m183) (ls := [some (.ref 95), some (.int (iI c)), some (.int (iI l)), some (.int (iI k)), none]) rfl (Nat.le_of_ble_eq_true rfl) rfl (fun d hd => ?_)
  obtain ⟨x1, x2, x3, x4, x5, x6, x7, x8⟩ := id hT
  refine Gs_aload_n p183_0 rfl rfl ?_
  refine Gs_iload_n p183_1 rfl rfl ?_
  refine Gs_callV1I p183_2 (by rfl) (by rfl) (by first | rfl | assumption | exact (show isTale _ from by assumption).1 | exact (show isCamp _ _ from by assumption).1 | exact (show isRow _ _ from by assumption).1) (Nat.le_of_ble_eq_true rfl) (by decide) (c_misCompany hT gc) (by omega) ?_
  refine Gs_ifb_eq (tgt := 21) p183_5 (by rfl) (fun h5 => ?_) (fun h5 => ?_)
  · refine Gs_iconst p183_21 ?_
    refine Gs_iret p183_22 rfl ⟨_, rfl, ?_⟩
    refine ⟨?_, rfl⟩
    first | (rw [if_neg (by omega)]; done) | (rw [if_pos (by omega)]; done)
  · refine Gs_aload_n p183_8 rfl rfl ?_
    refine Gs_iload_n p183_9 rfl rfl ?_
    refine Gs_callV1I p183_10 (by rfl) (by rfl) (by first | rfl | assumption | exact (show isTale _ from by assumption).1 | exact (show isCamp _ _ from by assumption).1 | exact (show isRow _ _ from by assumption).1) (Nat.le_of_ble_eq_true rfl) (by decide) (c_misLine hT gl) (by omega) ?_
    refine Gs_ifb_eq (tgt := 21) p183_13 (by rfl) (fun h13 => ?_) (fun h13 => ?_)
    · refine Gs_iconst p183_21 ?_
      refine Gs_iret p183_22 rfl ⟨_, rfl, ?_⟩
      refine ⟨?_, rfl⟩
      first | (rw [if_neg (by omega)]; done) | (rw [if_pos (by omega)]; done)
    · refine Gs_iload_n p183_16 rfl rfl ?_
      refine Gs_iconst p183_17 ?_
      refine Gs_icmp_ge (tgt := 23) p183_18 (by rfl) (by first | assumption | exact ⟨by omega, by omega⟩ | (split <;> exact ⟨by omega, by omega⟩)) (by first | assumption | exact ⟨by omega, by omega⟩ | (split <;> exact ⟨by omega, by omega⟩)) (fun h18 => ?_) (fun h18 => ?_)
      · refine Gs_aload_n p183_23 rfl rfl ?_
        refine Gs_iload_n p183_24 rfl rfl ?_
        refine Gs_callV1I p183_25 (by rfl) (by rfl) (by first | rfl | assumption | exact (show isTale _ from by assumption).1 | exact (show isCamp _ _ from by assumption).1 | exact (show isRow _ _ from by assumption).1) (Nat.le_of_ble_eq_true rfl) (by decide) (c_misIn hm (by omega) (by omega)) (by omega) ?_
        refine Gs_ifb_ne (tgt := 34) p183_28 (by rfl) (fun h28 => ?_) (fun h28 => ?_)
        · exfalso; omega
        · refine Gs_bipush p183_31 (by decide) ?_
          refine Gs_iret p183_33 rfl ⟨_, rfl, ?_⟩
          refine ⟨?_, rfl⟩
          first | (rw [if_neg (by omega)]; done) | (rw [if_pos (by omega)]; done)
      · refine Gs_iconst p183_21 ?_
        refine Gs_iret p183_22 rfl ⟨_, rfl, ?_⟩
        refine ⟨?_, rfl⟩
        first | (rw [if_neg (by omega)]; done) | (rw [if_pos (by omega)]; done)

theorem T_tell {X : vX} {K : Int} {s : St} (hR : Rel K s) (hK : K < 512) {x1 x2 x3 : Int} (g1 : rg x1) (g2 : rg x2) (g3 : rg x3) : Both X K s 108 183 [.int (iI x1), .int (iI x2), .int (iI x3)] := by
  obtain ⟨h0, h1, h2, h3, h4, h5, h6⟩ := id hR
  have e0 := h3.2.2.1
  have hL : vF s 5 4 ≤ 9 := h3.1.2.1
  by_cases c : ((0 ≤ x1 ∧ x1 < vA s 96 2) ∧ (0 ≤ x2 ∧ x2 < vF s 5 4) ∧ -1 ≤ x3) ∧ 1 ≤ cg s 14 x1 0
  · obtain ⟨⟨c1, c2, c3⟩, c4⟩ := c
    have la := (h4.2.2.2.1 x1 c1.1 c1.2).2.2.2.2.2.2 c4
    have cl : ∀ l w, 0 ≤ l → l < vF s 5 4 → 0 ≤ cfI s 5 l w ∧ cfI s 5 l w < vF s 5 4 := fun l w a b => h3.cf_line a b
    obtain ⟨z, t, ⟨ez, o⟩, A⟩ := (k_tell (X := X) h3.1 cl h4.1 c1.1 c1.2 la.1 la.2 c2.1 c2.2 g3 c3 c4).ex
    have e96 : ∀ z, vA t 96 z = vA s 96 z := fun z => o.1 96 z (by decide)
    have e98 : ∀ z, vA t 98 z = vA s 98 z := fun z => o.1 98 z (by decide)
    have eC : ∀ l w, cfM t l w = cfM s l w := fun l w => by unfold cfM; rw [bhM_cong e96]
    have v0 := h4.v0 c1.1 c1.2 (w := 0) (by omega) (by omega)
    have v1 := h4.v0 c1.1 c1.2 (w := 1) (by omega) (by omega)
    rw [mi_0] at v0
    rw [mi_1] at v1
    obtain ⟨z', t', ⟨ez', o'⟩, B⟩ := (m_tell (X := X) (s := t) (c := x1) (l := x2) (k := x3) (C := cfI s 5) (hR.MT.cong e96) hL (by rw [e96]; exact e0) (fun l w a b _ _ => cl l w a b) (fun l w a b d e => by rw [eC]; exact h3.cf a b d e) (by rw [e96]; exact h4.mc.cong e98) c1.1 (by rw [e96]; exact c1.2) (by rw [e98, ← v1]; exact la.1) (by rw [e98, ← v1]; exact la.2) g2 c2.1 c2.2 g3 c3 (by rw [e98]; omega)).ex
    refine Both.n hR A B (by decide) (by decide) ?_ ⟨fun a ha z => ?_, fun a k ha => ?_⟩
    · rw [ez, ez', e98, e98, Int.zero_add, ← v0, ← v1]
      have key : ∀ (n : Nat) (lg lg' : Int → Int) (hot at_ : Int), (∀ x, 0 ≤ x → x < 4 → lg x = lg' x) → tl (cfI s 5) x2 n lg hot at_ = tl (cfI s 5) x2 n lg' hot at_ := by
        intro n
        induction n with
        | zero => intro _ _ _ _ _; rfl
        | succ n ih =>
          intro lg lg' hot at_ h
          show fstN (tlF (tl (cfI s 5) x2 n) (cfI s 5) lg hot at_) 4 0 = fstN (tlF (tl (cfI s 5) x2 n) (cfI s 5) lg' hot at_) 4 0
          have f : ∀ w : Nat, w < 4 → tlF (tl (cfI s 5) x2 n) (cfI s 5) lg hot at_ w = tlF (tl (cfI s 5) x2 n) (cfI s 5) lg' hot at_ w := fun w hw => by
            unfold tlF
            rw [h w (by omega) (by omega), ih (up1 lg w (lg' w - 1)) (up1 lg' w (lg' w - 1)) _ _ (fun x a b => by rw [up1_at, up1_at]; split; rfl; exact h x a b)]
          show fstN _ (0 + 1 + 1 + 1 + 1) 0 = fstN _ (0 + 1 + 1 + 1 + 1) 0
          rw [fstN_s, fstN_s, fstN_s, fstN_s, fstN_s, fstN_s, fstN_s, fstN_s, f 0 (by omega), f (0 + 1) (by omega), f (0 + 1 + 1) (by omega), f (0 + 1 + 1 + 1) (by omega)]
          rfl
      have k2 : ∀ f n, tlA (cfI s 5) x2 (fun x => vA t 98 (8 + 4 * x1 + x)) (cg s 14 x1 0) (cg s 14 x1 1) f n = tlA (cfI s 5) x2 (fun x => cg s 14 x1 (2 + x)) (cg s 14 x1 0) (cg s 14 x1 1) f n := by
        intro f
        induction f with
        | zero => intro n; rfl
        | succ f ih =>
          intro n
          rw [tlA_s, tlA_s, ih, key n _ (fun x => cg s 14 x1 (2 + x)) _ _ (fun x a b => by show vA t 98 (8 + 4 * x1 + x) = cg s 14 x1 (2 + x); rw [e98, h4.v0 c1.1 c1.2 (by omega) (by omega), mi_2 a b])]
      rw [k2]
    · rw [o'.1 a z (Nat.lt_of_not_le (fun e => ha (by unfold scr; omega))), o.1 a z (by unfold scr at ha; omega)]
    · rw [o'.2, o.2 a k (by have := ha.1; unfold scr at this; omega)]
  · refine Both.q hR (k_tell_no h3.1 h4.1 g1 g2 g3 c) (m_tell_no hR.MT h4.mc g1 g2 g3 (fun q => c ?_)) (by decide) (by decide) (by rw [e0]) ?_ (Kept.rfl' s)
    · rw [e0] at q
      refine ⟨q.1, ?_⟩
      rw [h4.v0 q.1.1.1 q.1.1.2 (by omega) (by omega), mi_0]; omega
    · split <;> exact ⟨by omega, by omega⟩