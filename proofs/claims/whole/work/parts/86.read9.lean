/-! the reader, the reference's side: an item, all items; T_fault -/
theorem zb (c : Prop) [Decidable c] : iI (if c then 1 else 0) = 0 ∨ iI (if c then 1 else 0) = 1 := by split; exact Or.inr rfl; exact Or.inl rfl
theorem pS_s (ch : Int → Int) (p : Int) (i : Nat) : pS ch p (i + 1) = nmP ch (pS ch p i) + 1 := rfl
set_option maxHeartbeats 4000000 in
set_option maxRecDepth 4000 in
theorem c_readsItem {X : vX} {s : St} {ch : Int → Int} {n p : Int} (t : MTx s ch n) (hp : vF s 95 12 = p) (p0 : 0 ≤ p) (p1 : p ≤ 5000) {A : AS} (m : RM s A) (ok : AOk A) : OkI X 4 143 [.ref 95] s (fun z u => FrM s u ∧ ((z = 0 ∧ item ch p A = none) ∨ (z = 1 ∧ ∃ (e : Int) (A2 : AS), p < e ∧ e ≤ p + 1000 ∧ vF u 95 12 = e ∧ RM u A2 ∧ item ch p A = (if ch e = 59 then some (e + 1, A2) else none)))) := by
  refine Ok.of (r := vm_m143) (ls := [some (.ref 95), none]) rfl (Nat.le_of_ble_eq_true rfl) rfl (fun d hd => ?_)
  have hb := hM_b (t.2.2.2.2.2 p)
  have hc1 := hb.2.2 116 (by omega)
  have hc2 := hb.2.2 114 (by omega)
  have hc3 := hb.2.2 99 (by omega)
  have o1 : FrP s (sF s 95 12 (vF s 95 12 + 1)) := ⟨fun _ _ => rfl, fun a k e => by rw [vF_sF, if_neg (by omega)]⟩
  have t1 := o1.txt t
  have m1 : RM (sF s 95 12 (vF s 95 12 + 1)) A := m.cong (fun _ => rfl)
  have pp : vF (sF s 95 12 (vF s 95 12 + 1)) 95 12 = p + 1 := (vF_sF _ _ _ _ _ _).trans ((if_pos ⟨rfl, rfl⟩).trans (by rw [hp]))
  refine Gs_aload_n p143_0 rfl rfl ?_
  refine Gs_callV0I p143_1 (by rfl) (by rfl) (by rfl) (Nat.le_of_ble_eq_true rfl) (by decide) (c_here t hp (by omega) (by omega)) (by omega) ?_
  refine Gs_ist1 p143_4 (by first | rfl | assumption) ?_
  refine Gs_aload_n p143_5 rfl rfl ?_
  refine Gs_dup p143_6 rfl ?_
  refine Gs_getI p143_7 (by first | rfl | assumption | exact (show isTale _ from by assumption).1 | exact (show isCamp _ _ from by assumption).1 | exact (show isRow _ _ from by assumption).1) (by rfl) ?_
  refine Gs_iconst p143_10 ?_
  refine Gs_iadd p143_11 ?_
  refine Gs_putI p143_12 (by first | rfl | assumption | exact (show isTale _ from by assumption).1 | exact (show isCamp _ _ from by assumption).1 | exact (show isRow _ _ from by assumption).1) (by rfl) (by rfl) (by rfl) ?_
  refine Gs_iload_n p143_15 rfl rfl ?_
  by_cases e1 : hM ch p = 116
  · have f1 := hc1.1 e1
    refine Gs_lku (off := 36) (tgt := 52) p143_16 ⟨by omega, by omega⟩ (by decide) (by rw [e1]; rfl) (by rfl) ?_
    refine Gs_aload_n p143_52 rfl rfl ?_
    refine Gs_callV0i p143_53 (by rfl) (by rfl) (by rfl) (Nat.le_of_ble_eq_true rfl) (by decide) (c_readsLine t1 pp (by omega) (by omega) m1 ok) (by omega) (fun z53 s53 h53 => ?_)
    rw [h53.1]
    refine Gs_zret p143_56 rfl (zb _) ⟨_, rfl, ?_⟩
    refine ⟨o1.m.trans h53.2.1, ?_⟩
    by_cases c : (∀ j : Nat, j < 4 → ¬ fg (ch (p + 1 + j)) = -4) ∧ A.L < 9
    · refine Or.inr ⟨if_pos c, p + 1 + 4, _, by omega, by omega, (h53.2.2 c).1, (h53.2.2 c).2, ?_⟩
      rw [item_t f1]
      by_cases q : ch (p + 1 + 4) = 59
      · rw [if_pos q, if_pos ⟨⟨c.1, q⟩, c.2⟩, show p + 1 + 4 + 1 = p + 6 by omega]
      · rw [if_neg q, if_neg (fun x => q x.1.2)]
    · exact Or.inl ⟨if_neg c, by rw [item_t f1, if_neg (fun x => c ⟨x.1.1, x.2⟩)]⟩
  by_cases e2 : hM ch p = 114
  · have f2 := hc2.1 e2
    refine Gs_lku (off := 41) (tgt := 57) p143_16 ⟨by omega, by omega⟩ (by decide) (by rw [e2]; rfl) (by rfl) ?_
    refine Gs_aload_n p143_57 rfl rfl ?_
    refine Gs_callV0i p143_58 (by rfl) (by rfl) (by rfl) (Nat.le_of_ble_eq_true rfl) (by decide) (c_readsRain t1 pp (by omega) (by omega) m1 ok) (by omega) (fun z58 s58 h58 => ?_)
    rw [h58.1]
    refine Gs_zret p143_61 rfl (zb _) ⟨_, rfl, ?_⟩
    refine ⟨o1.m.trans h58.2.1, ?_⟩
    have qb := nmP_b ch (p + 1)
    by_cases c : A.R < 8 ∧ ¬ nmV ch (p + 1) = -4 ∧ nmV ch (p + 1) ≤ 3
    · refine Or.inr ⟨if_pos c, nmP ch (p + 1), _, by omega, by omega, (h58.2.2 c).1, (h58.2.2 c).2, ?_⟩
      rw [item_r f2]
      by_cases q : ch (nmP ch (p + 1)) = 59
      · rw [if_pos q, if_pos ⟨fun i hi => by rw [show i = 0 by omega]; exact ⟨c.2.1, q⟩, c.1, c.2.2⟩]; rfl
      · rw [if_neg q, if_neg (fun x => q (x.1 0 (by omega)).2)]
    · exact Or.inl ⟨if_neg c, by rw [item_r f2, if_neg (fun x => c ⟨x.2.1, (x.1 0 (by omega)).1, x.2.2⟩)]⟩
  by_cases e3 : hM ch p = 99
  · have f3 := hc3.1 e3
    refine Gs_lku (off := 46) (tgt := 62) p143_16 ⟨by omega, by omega⟩ (by decide) (by rw [e3]; rfl) (by rfl) ?_
    refine Gs_aload_n p143_62 rfl rfl ?_
    refine Gs_callV0i p143_63 (by rfl) (by rfl) (by rfl) (Nat.le_of_ble_eq_true rfl) (by decide) (c_readsCompany t1 pp (by omega) (by omega) m1 ok) (by omega) (fun z63 s63 h63 => ?_)
    rw [h63.1]
    refine Gs_zret p143_66 rfl (zb _) ⟨_, rfl, ?_⟩
    refine ⟨o1.m.trans h63.2.1, ?_⟩
    have qb := nmP_b ch (pS ch (p + 1) 5)
    have pb := pS_b ch (p + 1) 5
    by_cases c : mcOk ch (p + 1) A
    · refine Or.inr ⟨if_pos c, nmP ch (pS ch (p + 1) 5), _, by omega, by omega, (h63.2.2 c).1, (h63.2.2 c).2, ?_⟩
      rw [item_c f3]
      by_cases q : ch (nmP ch (pS ch (p + 1) 5)) = 59
      · have nk : nOk ch (p + 1) 6 := fun i hi => by
          refine ⟨c.2.1 i hi, ?_⟩
          by_cases i5 : i + 1 < 6
          · rw [if_pos i5]; exact c.2.2.1 i (by omega)
          · rw [if_neg i5]
            have i6 : i = 5 := by omega
            subst i6
            exact q
        rw [if_pos q, if_pos ⟨nk, c.1, c.2.2.2⟩]
        exact congrArg (fun x => some (x, A.aC (fun i => nmV ch (pS ch (p + 1) i)))) (pS_s ch (p + 1) 5)
      · rw [if_neg q, if_neg (fun x => q (x.1 5 (by omega)).2)]
    · refine Or.inl ⟨if_neg c, ?_⟩
      rw [item_c f3, if_neg (fun x => c ⟨x.2.1, fun j hj => (x.1 j hj).1, fun j hj => ?_, x.2.2⟩)]
      have := (x.1 j (by omega)).2
      rw [if_pos (by omega)] at this
      exact this
  refine Gs_lku (off := 51) (tgt := 67) p143_16 ⟨by omega, by omega⟩ (by decide) (lk_x e1 e2 e3) (by rfl) ?_
  refine Gs_iconst p143_67 ?_
  refine Gs_zret p143_68 rfl (by first | exact Or.inl rfl | exact Or.inr rfl | (split <;> first | exact Or.inl rfl | exact Or.inr rfl)) ⟨_, rfl, ?_⟩
  exact ⟨o1.m, Or.inl ⟨rfl, item_x (fun q => e1 (hc1.2 q)) (fun q => e2 (hc2.2 q)) (fun q => e3 (hc3.2 q))⟩⟩

set_option maxHeartbeats 4000000 in
set_option maxRecDepth 4000 in
theorem c_reads {X : vX} {s : St} {ch : Int → Int} {n : Int} (t : MTx s ch n) : OkI X 5 144 [.ref 95] s (fun z u => z = (rdF ch n 200 0 A0).1 ∧ FrM s u ∧ ((rdF ch n 200 0 A0).1 = -4 → RM u (rdF ch n 200 0 A0).2)) := by
  refine Ok.of (r := vm_m144) (ls := [some (.ref 95), none]) rfl (Nat.le_of_ble_eq_true rfl) rfl (fun d hd => ?_)
  have t0 := t.2.1
  have t9 := t.2.2.1
  refine Gs_iconst p144_0 ?_
  refine Gs_ist1 p144_1 (by first | rfl | assumption) ?_
  refine dn (n := (71 : Int)) (P := fun i => ∀ y : St, (∀ a z, a ≠ 97 → vA y a z = vA s a z) → (∀ a k, vF y a k = vF s a k) → (∀ j : Int, 0 ≤ j → j < i → vA y 97 j = 0) → Gs X d 144 2 [some (.ref 95), some (.int (iI i))] [] (y) (fun vv yy => ∃ zz : Int, vv = some (.int (iI zz)) ∧ (fun z u => z = (rdF ch n 200 0 A0).1 ∧ FrM s u ∧ ((rdF ch n 200 0 A0).1 = -4 → RM u (rdF ch n 200 0 A0).2)) zz yy)) (by omega) (fun i hi hin ih => ?_) ?_ _ (fun _ _ _ => rfl) (fun _ _ => rfl) (fun j a b => absurd b (by omega))
  · show ∀ y : St, (∀ a z, a ≠ 97 → vA y a z = vA s a z) → (∀ a k, vF y a k = vF s a k) → (∀ j : Int, 0 ≤ j → j < i → vA y 97 j = 0) → Gs X d 144 2 [some (.ref 95), some (.int (iI i))] [] (y) _
    intro y oA oF hj
    refine Gs_iload_n p144_2 rfl rfl ?_
    refine Gs_bipush p144_3 (by decide) ?_
    refine Gs_icmp_ge (tgt := 21) p144_5 (by rfl) (by first | assumption | exact ⟨by omega, by omega⟩ | (split <;> exact ⟨by omega, by omega⟩)) (by first | assumption | exact ⟨by omega, by omega⟩ | (split <;> exact ⟨by omega, by omega⟩)) (fun hc5 => absurd ‹_› (by first | omega | assumption)) (fun hc5 => ?_)
    refine Gs_aload_n p144_8 rfl rfl ?_
    refine Gs_getR p144_9 (by first | rfl | assumption | exact (show isTale _ from by assumption).1 | exact (show isCamp _ _ from by assumption).1 | exact (show isRow _ _ from by assumption).1) (by rfl) ?_
    refine Gs_iload_n p144_12 rfl rfl ?_
    refine Gs_iconst p144_13 ?_
    refine Gs_iast p144_14 (by first | rfl | assumption | exact (show isTale _ from by assumption).1 | exact (show isCamp _ _ from by assumption).1 | exact (show isRow _ _ from by assumption).1) (by omega) (by omega) (by omega) ?_
    refine Gs_iinc1 (b51 := none) p144_15 (by first | rfl | assumption) ?_
    refine Gs_goto (tgt := 2) p144_18 (by rfl) ?_
    refine ih _ (fun a z x => by rw [vA_sA, if_neg (fun q => x q.1)]; exact oA a z x) (fun a k => by rw [vF_sA]; exact oF a k) (fun j a b => ?_)
    rw [vA_sA]
    by_cases c : j = i
    · rw [if_pos ⟨rfl, c⟩]
    · rw [if_neg (fun q => c q.2)]; exact hj j a (by omega)
  · show ∀ y : St, (∀ a z, a ≠ 97 → vA y a z = vA s a z) → (∀ a k, vF y a k = vF s a k) → (∀ j : Int, 0 ≤ j → j < ((71 : Int)) → vA y 97 j = 0) → Gs X d 144 2 [some (.ref 95), some (.int (iI ((71 : Int))))] [] (y) _
    intro y oA oF hj
    have oz : FrM s (sF y 95 12 0) := ⟨fun a z x => oA a z x, fun a k x => by rw [vF_sF, if_neg (by omega)]; exact oF a k⟩
    have rz : RM (sF y 95 12 0) A0 := ⟨⟨hj 0 (by omega) (by omega), hj 1 (by omega) (by omega), hj 2 (by omega) (by omega)⟩, fun j _ j1 => absurd (show j < 4 * 0 from j1) (by omega), fun j _ j1 => absurd (show j < 0 from j1) (by omega), fun k _ k1 => absurd (show k < 0 from k1) (by omega)⟩
    refine Gs_iload_n p144_2 rfl rfl ?_
    refine Gs_bipush p144_3 (by decide) ?_
    refine Gs_icmp_ge (tgt := 21) p144_5 (by rfl) (by first | assumption | exact ⟨by omega, by omega⟩ | (split <;> exact ⟨by omega, by omega⟩)) (by first | assumption | exact ⟨by omega, by omega⟩ | (split <;> exact ⟨by omega, by omega⟩)) (fun hc5 => ?_) (fun hc5 => absurd ‹_› (by first | omega | assumption))
    refine Gs_aload_n p144_21 rfl rfl ?_
    refine Gs_iconst p144_22 ?_
    refine Gs_putI p144_23 (by first | rfl | assumption | exact (show isTale _ from by assumption).1 | exact (show isCamp _ _ from by assumption).1 | exact (show isRow _ _ from by assumption).1) (by rfl) (by rfl) (by rfl) ?_
    refine dn (n := (200 : Int)) (P := fun i => ∀ (y : St) (b1 : Option Value) (p : Int) (A : AS), FrM s y → RM y A → AOk A → vF y 95 12 = p → 0 ≤ p → p ≤ 3000 → i ≤ p → rdF ch n (200 - i).toNat p A = rdF ch n 200 0 A0 → Gs X d 144 26 [some (.ref 95), b1] [] (y) (fun vv yy => ∃ zz : Int, vv = some (.int (iI zz)) ∧ (fun z u => z = (rdF ch n 200 0 A0).1 ∧ FrM s u ∧ ((rdF ch n 200 0 A0).1 = -4 → RM u (rdF ch n 200 0 A0).2)) zz yy)) (by omega) (fun i hi hin ih => ?_) ?_ _ _ 0 A0 oz rz A0_ok rfl (by omega) (by omega) (by omega) rfl
    · show ∀ (y : St) (b1 : Option Value) (p : Int) (A : AS), FrM s y → RM y A → AOk A → vF y 95 12 = p → 0 ≤ p → p ≤ 3000 → i ≤ p → rdF ch n (200 - i).toNat p A = rdF ch n 200 0 A0 → Gs X d 144 26 [some (.ref 95), b1] [] (y) _
      intro y b1 p A o r ok hp p0 p1 pi e
      have t2 := o.txt t
      rw [show (200 - i).toNat = (200 - (i + 1)).toNat + 1 by omega] at e
      refine Gs_aload_n p144_26 rfl rfl ?_
      refine Gs_getI p144_27 (by first | rfl | assumption | exact (show isTale _ from by assumption).1 | exact (show isCamp _ _ from by assumption).1 | exact (show isRow _ _ from by assumption).1) (by rfl) ?_
      refine Gs_aload_n p144_30 rfl rfl ?_
      refine Gs_getI p144_31 (by first | rfl | assumption | exact (show isTale _ from by assumption).1 | exact (show isCamp _ _ from by assumption).1 | exact (show isRow _ _ from by assumption).1) (by rfl) ?_
      rw [hp, t2.1]
      refine Gs_icmp_ge (tgt := 63) p144_34 (by rfl) (by first | assumption | exact ⟨by omega, by omega⟩ | (split <;> exact ⟨by omega, by omega⟩)) (by first | assumption | exact ⟨by omega, by omega⟩ | (split <;> exact ⟨by omega, by omega⟩)) (fun h34 => ?_) (fun h34 => ?_)
      · refine Gs_bipush p144_63 (by decide) ?_
        refine Gs_iret p144_65 rfl ⟨_, rfl, ?_⟩
        rw [rdF_end (by omega)] at e
        rw [← e]
        exact ⟨rfl, o, fun _ => r⟩
      · refine Gs_aload_n p144_37 rfl rfl ?_
        refine Gs_getI p144_38 (by first | rfl | assumption | exact (show isTale _ from by assumption).1 | exact (show isCamp _ _ from by assumption).1 | exact (show isRow _ _ from by assumption).1) (by rfl) ?_
        rw [hp]
        refine Gs_ist1 p144_41 (by first | rfl | assumption) ?_
        refine Gs_aload_n p144_42 rfl rfl ?_
        refine Gs_callV0i p144_43 (by rfl) (by rfl) (by rfl) (Nat.le_of_ble_eq_true rfl) (by decide) (c_readsItem t2 hp p0 (by omega) r ok) (by omega) (fun z43 s43 h43 => ?_)
        refine Gs_if_eq (tgt := 58) p144_46 (by rfl) (by rcases h43.2 with q | q <;> exact ⟨by have := q.1; omega, by have := q.1; omega⟩) (fun h46 => ?_) (fun h46 => ?_)
        · refine Gs_iload_n p144_58 rfl rfl ?_
          refine Gs_iret p144_59 rfl ⟨_, rfl, ?_⟩
          have hno : item ch p A = none := by
            first
              | (rcases h43.2 with q | q
                 · exact q.2
                 · have := q.1; omega)
              | (rw [hI, if_neg h55])
          rw [rdF_none (by omega) hno] at e
          rw [← e]
          exact ⟨rfl, by first | exact o.trans (h43.1.trans h52.2.1.m) | exact o.trans h43.1, fun q => by have : p = -4 := q; omega⟩
        · obtain ⟨e2, A2, e2a, e2b, ve, r2, hI⟩ := (h43.2.resolve_left (fun q => h46 q.1)).2
          refine Gs_aload_n p144_49 rfl rfl ?_
          refine Gs_bipush p144_50 (by decide) ?_
          refine Gs_callV1i p144_52 (by rfl) (by rfl) (by rfl) (Nat.le_of_ble_eq_true rfl) (by decide) (c_takes (c := 59) (h43.1.txt t2) ve (by omega) (by omega) (by omega) (by omega)) (by omega) (fun z52 s52 h52 => ?_)
          rw [h52.1]
          refine Gs_ifb_ne (tgt := 60) p144_55 (by rfl) (fun h55 => ?_) (fun h55 => ?_)
          · refine Gs_goto (tgt := 26) p144_60 (by rfl) ?_
            rw [if_pos h55] at hI
            have k := item_ok hI ok
            rw [rdF_some (by omega) hI] at e
            exact ih _ _ (e2 + 1) A2 (o.trans (h43.1.trans h52.2.1.m)) (r2.cong (fun z => h52.2.1.1 _ z)) k.1 (h52.2.2 h55).1 (by omega) (by omega) (by omega) e
          · refine Gs_iload_n p144_58 rfl rfl ?_
            refine Gs_iret p144_59 rfl ⟨_, rfl, ?_⟩
            have hno : item ch p A = none := by
              first
                | (rcases h43.2 with q | q
                   · exact q.2
                   · have := q.1; omega)
                | (rw [hI, if_neg h55])
            rw [rdF_none (by omega) hno] at e
            rw [← e]
            exact ⟨rfl, by first | exact o.trans (h43.1.trans h52.2.1.m) | exact o.trans h43.1, fun q => by have : p = -4 := q; omega⟩
    · show ∀ (y : St) (b1 : Option Value) (p : Int) (A : AS), FrM s y → RM y A → AOk A → vF y 95 12 = p → 0 ≤ p → p ≤ 3000 → ((200 : Int)) ≤ p → rdF ch n (200 - ((200 : Int))).toNat p A = rdF ch n 200 0 A0 → Gs X d 144 26 [some (.ref 95), b1] [] (y) _
      intro y b1 p A o r ok hp p0 p1 pi e
      have t2 := o.txt t
      refine Gs_aload_n p144_26 rfl rfl ?_
      refine Gs_getI p144_27 (by first | rfl | assumption | exact (show isTale _ from by assumption).1 | exact (show isCamp _ _ from by assumption).1 | exact (show isRow _ _ from by assumption).1) (by rfl) ?_
      refine Gs_aload_n p144_30 rfl rfl ?_
      refine Gs_getI p144_31 (by first | rfl | assumption | exact (show isTale _ from by assumption).1 | exact (show isCamp _ _ from by assumption).1 | exact (show isRow _ _ from by assumption).1) (by rfl) ?_
      rw [hp, t2.1]
      refine Gs_icmp_ge (tgt := 63) p144_34 (by rfl) (by first | assumption | exact ⟨by omega, by omega⟩ | (split <;> exact ⟨by omega, by omega⟩)) (by first | assumption | exact ⟨by omega, by omega⟩ | (split <;> exact ⟨by omega, by omega⟩)) (fun h34 => ?_) (fun h34 => absurd ‹_› (by first | omega | assumption))
      refine Gs_bipush p144_63 (by decide) ?_
      refine Gs_iret p144_65 rfl ⟨_, rfl, ?_⟩
      rw [rdF_end (by omega)] at e
      rw [← e]
      exact ⟨rfl, o, fun _ => r⟩

set_option maxHeartbeats 1000000 in
set_option maxRecDepth 4000 in
theorem c_mfault {X : vX} {s : St} {ch : Int → Int} {n : Int} (t : MTx s ch n) : OkI X 6 145 [.ref 95] s (fun z u => z = (rdF ch n 200 0 A0).1 ∧ FrM s u ∧ ((rdF ch n 200 0 A0).1 = -4 → RM u (rdF ch n 200 0 A0).2)) := by
  refine Ok.of (r := vm_m145) (ls := [some (.ref 95)]) rfl (Nat.le_of_ble_eq_true rfl) rfl (fun d hd => ?_)
  refine Gs_aload_n p145_0 rfl rfl ?_
  refine Gs_callV0i p145_1 (by rfl) (by rfl) (by rfl) (Nat.le_of_ble_eq_true rfl) (by decide) (c_reads t) (by omega) (fun z1 s1 h1 => ?_)
  refine Gs_iret p145_4 rfl ⟨_, rfl, ?_⟩
  exact h1

def chS (s : St) (p : Int) : Int := if 0 ≤ p ∧ p < vF s 1 1 then vA s 2 p else -4
theorem RelText.ch {s : St} (h : RelText s) : RText s (chS s) := by
  obtain ⟨h1, h2, h3, h4⟩ := h
  refine ⟨h1, h2, fun p => rfl, fun p => ?_⟩
  unfold chS
  by_cases c : 0 ≤ p ∧ p < vF s 1 1
  · rw [if_pos c]; have := h4 p c.1 c.2; omega
  · rw [if_neg c]; omega
theorem RelText.mch {s : St} (h : RelText s) : MTx s (chS s) (vF s 1 1) := by
  have b := h.ch.2.2.2
  obtain ⟨h1, h2, h3, h4⟩ := h
  refine ⟨h3, h1, h2, fun p p0 p1 => ?_, fun p p1 => ?_, b⟩
  · unfold chS
    rw [if_pos ⟨p0, p1⟩]; have := h4 p p0 p1; omega
  · unfold chS
    rw [if_neg (by omega)]
theorem FrR.kept {s t : St} (h : FrR s t) : Kept s t := ⟨fun a ha z => h.1 a z (by unfold scr at ha; omega), fun a k ha => h.2 a k (by have := ha.1; unfold scr at this; omega)⟩
theorem FrM.kept {s t : St} (h : FrM s t) : Kept s t := ⟨fun a ha z => h.1 a z (by unfold scr at ha; omega), fun a k ha => h.2 a k ha.2⟩
theorem T_fault {X : vX} {K : Int} {s : St} (hR : Rel K s) (hK : K < 512) : Both X K s 95 145 [] := by
  obtain ⟨h0, h1, h2, h3, h4, h5, h6⟩ := id hR
  have rb := rdF_ok (ch := chS s) (n := vF s 1 1) 200 0 A0 A0_ok (by omega)
  have n2 := h1.2.1
  refine Both.of (D := 5) (D' := 6) (c_fault h1.ch rfl) (by decide) (by decide) (fun z t q => c_mfault (ch := chS s) (n := vF s 1 1) (h1.mch.cong (q.2.1.2 _ _ (by decide)) (fun z => q.2.1.1 _ z (by decide)))) (fun z t z' t' q q' => ⟨q'.1.trans q.1.symm, ?_, Rel_more (hR.kept (q.2.1.kept.trans q'.2.1.kept))⟩)
  rw [q.1]
  exact ⟨by omega, by omega⟩