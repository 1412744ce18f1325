/-! the reader, the class' side: an item, all items -/
theorem c_figs {X : vX} {s : St} {ch : Int → Int} {p : Int} (t : RText s ch) (hp : vF s 54 4 = p) (p0 : 0 ≤ p) (p1 : p ≤ 100000) : OkI X 2 49 [.ref 54, .int (iI 4)] s (fun z u => z = (if figOk ch p then 1 else 0) ∧ NumFr s u ∧ (figOk ch p → vF u 54 4 = p + 5 ∧ vF u 55 1 = 4 ∧ ∀ j : Int, 0 ≤ j → j < 4 → vA u 56 j = fg (ch (p + j)))) :=
  OkI.imp (c_readFigures t hp p0 p1) (fun z u ⟨q1, q2⟩ => by
    rcases q2 with ⟨e, o, r⟩ | ⟨e, o⟩
    · exact ⟨by rw [if_pos o]; exact e, q1, fun _ => r⟩
    · exact ⟨by rw [if_neg o]; exact e, q1, fun k => absurd k o⟩)
theorem c_nums {X : vX} {s : St} {ch : Int → Int} {p n : Int} (t : RText s ch) (hp : vF s 54 4 = p) (p0 : 0 ≤ p) (p1 : p ≤ 100000) (n1 : 1 ≤ n) (n6 : n ≤ 6) : OkI X 2 50 [.ref 54, .int (iI n)] s (fun z u => z = (if nOk ch p n.toNat then 1 else 0) ∧ NumFr s u ∧ (nOk ch p n.toNat → vF u 54 4 = pS ch p n.toNat ∧ vF u 55 1 = n ∧ ∀ j : Nat, (j : Int) < n → vA u 56 j = nmV ch (pS ch p j))) :=
  OkI.imp (c_readNumbers t hp p0 p1 n1 n6) (fun z u ⟨q1, q2⟩ => by
    rcases q2 with ⟨e, o, r⟩ | ⟨e, o⟩
    · exact ⟨by rw [if_pos o]; exact e, q1, fun _ => r⟩
    · exact ⟨by rw [if_neg o]; exact e, q1, fun k => absurd k o⟩)
theorem item_t {ch : Int → Int} {p : Int} {A : AS} (e : ch p = 116) : item ch p A = if figOk ch (p + 1) ∧ A.L < 9 then some (p + 6, A.aL (fun j => fg (ch (p + 1 + j)))) else none := by unfold item; rw [if_pos e]
theorem item_r {ch : Int → Int} {p : Int} {A : AS} (e : ch p = 114) : item ch p A = if nOk ch (p + 1) 1 ∧ A.R < 8 ∧ nmV ch (p + 1) ≤ 3 then some (pS ch (p + 1) 1, A.aR (nmV ch (p + 1))) else none := by unfold item; rw [if_neg (by omega), if_pos e]
theorem item_c {ch : Int → Int} {p : Int} {A : AS} (e : ch p = 99) : item ch p A = if nOk ch (p + 1) 6 ∧ A.N < 4 ∧ cOk A.L (fun i => nmV ch (pS ch (p + 1) i)) then some (pS ch (p + 1) 6, A.aC (fun i => nmV ch (pS ch (p + 1) i))) else none := by unfold item; rw [if_neg (by omega), if_neg (by omega), if_pos e]
theorem item_x {ch : Int → Int} {p : Int} {A : AS} (e1 : ¬ ch p = 116) (e2 : ¬ ch p = 114) (e3 : ¬ ch p = 99) : item ch p A = none := by unfold item; rw [if_neg e1, if_neg e2, if_neg e3]
theorem PlaceFr {s : St} {p : Int} : FrR s (sF s 54 4 p) := ⟨fun _ _ _ => rfl, fun a k e => by rw [vF_sF, if_neg (by omega)]⟩
theorem lk_x {a x y z d : Int} (e1 : ¬ a = 116) (e2 : ¬ a = 114) (e3 : ¬ a = 99) : Op.lookupswitch.offset [(99, x), (114, y), (116, z)] d a = d := by
  rw [Op.lookupswitch.offset_cons, if_neg (fun q => e3 q.symm), Op.lookupswitch.offset_cons, if_neg (fun q => e2 q.symm), Op.lookupswitch.offset_cons, if_neg (fun q => e1 q.symm), Op.lookupswitch.offset_nil]
set_option maxHeartbeats 4000000 in
set_option maxRecDepth 4000 in
theorem c_readItem {X : vX} {s : St} {ch : Int → Int} {p : Int} (t : RText s ch) (hp : vF s 54 4 = p) (p0 : 0 ≤ p) (p1 : p ≤ 10000) {A : AS} (h : RC s A) (ok : AOk A) : OkI X 3 48 [.ref 54] s (fun z u => z = (if item ch p A = none then 0 else 1) ∧ FrR s u ∧ ∀ p' A', item ch p A = some (p', A') → vF u 54 4 = p' ∧ RC u A') := by
  refine Ok.of (r := vm_m48) (ls := [some (.ref 54)]) rfl (Nat.le_of_ble_eq_true rfl) rfl (fun d hd => ?_)
  have cb := t.2.2.2 p
  have t1 : RText (sF s 54 4 (p + 1)) ch := PlaceFr.txt t
  have r1 : RC (sF s 54 4 (p + 1)) A := h.cong (fun _ _ _ => rfl) (fun a k e => by rw [vF_sF, if_neg (by omega)])
  have pp : vF (sF s 54 4 (p + 1)) 54 4 = p + 1 := (vF_sF _ _ _ _ _ _).trans (if_pos ⟨rfl, rfl⟩)
  refine Gs_aload_n p48_0 rfl rfl ?_
  refine Gs_callV0I p48_1 (by rfl) (by rfl) (by rfl) (Nat.le_of_ble_eq_true rfl) (by decide) (c_take t hp (by omega) (by omega)) (by omega) ?_
  by_cases e1 : ch p = 116
  · refine Gs_lku (off := 36) (tgt := 40) p48_4 ⟨by omega, by omega⟩ (by decide) (by rw [e1]; rfl) (by rfl) ?_
    refine Gs_aload_n p48_40 rfl rfl ?_
    refine Gs_iconst p48_41 ?_
    refine Gs_callV1i p48_42 (by rfl) (by rfl) (by rfl) (Nat.le_of_ble_eq_true rfl) (by decide) (c_figs t1 pp (by omega) (by omega)) (by omega) (fun z42 s42 h42 => ?_)
    rw [h42.1]
    refine Gs_ifb_eq (tgt := 66) p48_45 (by rfl) (fun h45 => ?_) (fun h45 => ?_)
    · refine Gs_iconst p48_66 ?_
      refine Gs_zret p48_67 rfl (by first | exact Or.inl rfl | exact Or.inr rfl | (split <;> first | exact Or.inl rfl | exact Or.inr rfl)) ⟨_, rfl, ?_⟩
      first
        | (have hs := (item_t (ch := ch) (p := p) (A := A) e1).trans (if_pos ⟨h45, h59⟩)
           refine ⟨by rw [hs, if_neg (fun q => by cases q)], PlaceFr.trans (h42.2.1.fr.trans h56.2.1), fun p' A' q => ?_⟩
           rw [hs] at q
           injection q with q
           injection q with q1 q2
           subst q1 q2
           exact ⟨by rw [h56.2.2.1, (h42.2.2 h45).1]; omega, h56.2.2.2 h59⟩)
        | (have hn : item ch p A = none := by rw [item_t e1, if_neg (fun q => h59 q.2)]
           exact ⟨by rw [if_pos hn], PlaceFr.trans (h42.2.1.fr.trans h56.2.1), fun p' A' q => by rw [hn] at q; cases q⟩)
        | (have hn : item ch p A = none := by rw [item_t e1, if_neg (fun q => h45 q.1)]
           exact ⟨by rw [if_pos hn], PlaceFr.trans h42.2.1.fr, fun p' A' q => by rw [hn] at q; cases q⟩)
    · refine Gs_aload_n p48_48 rfl rfl ?_
      refine Gs_getR p48_49 (by first | rfl | assumption | exact (show isTale _ from by assumption).1 | exact (show isCamp _ _ from by assumption).1 | exact (show isRow _ _ from by assumption).1) (by rfl) ?_
      refine Gs_aload_n p48_52 rfl rfl ?_
      refine Gs_getR p48_53 (by first | rfl | assumption | exact (show isTale _ from by assumption).1 | exact (show isCamp _ _ from by assumption).1 | exact (show isRow _ _ from by assumption).1) (by rfl) ?_
      refine Gs_callV1i p48_56 (by rfl) (by rfl) (by rfl) (Nat.le_of_ble_eq_true rfl) (by decide) (c_addLine (r1.num h42.2.1) ok (h42.2.2 h45).2.1 (h42.2.2 h45).2.2) (by omega) (fun z56 s56 h56 => ?_)
      rw [h56.1]
      refine Gs_ifb_eq (tgt := 66) p48_59 (by rfl) (fun h59 => ?_) (fun h59 => ?_)
      · refine Gs_iconst p48_66 ?_
        refine Gs_zret p48_67 rfl (by first | exact Or.inl rfl | exact Or.inr rfl | (split <;> first | exact Or.inl rfl | exact Or.inr rfl)) ⟨_, rfl, ?_⟩
        first
          | (have hs := (item_t (ch := ch) (p := p) (A := A) e1).trans (if_pos ⟨h45, h59⟩)
             refine ⟨by rw [hs, if_neg (fun q => by cases q)], PlaceFr.trans (h42.2.1.fr.trans h56.2.1), fun p' A' q => ?_⟩
             rw [hs] at q
             injection q with q
             injection q with q1 q2
             subst q1 q2
             exact ⟨by rw [h56.2.2.1, (h42.2.2 h45).1]; omega, h56.2.2.2 h59⟩)
          | (have hn : item ch p A = none := by rw [item_t e1, if_neg (fun q => h59 q.2)]
             exact ⟨by rw [if_pos hn], PlaceFr.trans (h42.2.1.fr.trans h56.2.1), fun p' A' q => by rw [hn] at q; cases q⟩)
          | (have hn : item ch p A = none := by rw [item_t e1, if_neg (fun q => h45 q.1)]
             exact ⟨by rw [if_pos hn], PlaceFr.trans h42.2.1.fr, fun p' A' q => by rw [hn] at q; cases q⟩)
      · refine Gs_iconst p48_62 ?_
        refine Gs_goto (tgt := 67) p48_63 (by rfl) ?_
        refine Gs_zret p48_67 rfl (by first | exact Or.inl rfl | exact Or.inr rfl | (split <;> first | exact Or.inl rfl | exact Or.inr rfl)) ⟨_, rfl, ?_⟩
        first
          | (have hs := (item_t (ch := ch) (p := p) (A := A) e1).trans (if_pos ⟨h45, h59⟩)
             refine ⟨by rw [hs, if_neg (fun q => by cases q)], PlaceFr.trans (h42.2.1.fr.trans h56.2.1), fun p' A' q => ?_⟩
             rw [hs] at q
             injection q with q
             injection q with q1 q2
             subst q1 q2
             exact ⟨by rw [h56.2.2.1, (h42.2.2 h45).1]; omega, h56.2.2.2 h59⟩)
          | (have hn : item ch p A = none := by rw [item_t e1, if_neg (fun q => h59 q.2)]
             exact ⟨by rw [if_pos hn], PlaceFr.trans (h42.2.1.fr.trans h56.2.1), fun p' A' q => by rw [hn] at q; cases q⟩)
          | (have hn : item ch p A = none := by rw [item_t e1, if_neg (fun q => h45 q.1)]
             exact ⟨by rw [if_pos hn], PlaceFr.trans h42.2.1.fr, fun p' A' q => by rw [hn] at q; cases q⟩)
  by_cases e2 : ch p = 114
  · refine Gs_lku (off := 64) (tgt := 68) p48_4 ⟨by omega, by omega⟩ (by decide) (by rw [e2]; rfl) (by rfl) ?_
    refine Gs_aload_n p48_68 rfl rfl ?_
    refine Gs_iconst p48_69 ?_
    refine Gs_callV1i p48_70 (by rfl) (by rfl) (by rfl) (Nat.le_of_ble_eq_true rfl) (by decide) (c_nums t1 pp (by omega) (by omega) (by omega) (by omega)) (by omega) (fun z70 s70 h70 => ?_)
    rw [h70.1]
    refine Gs_ifb_eq (tgt := 98) p48_73 (by rfl) (fun h73 => ?_) (fun h73 => ?_)
    · refine Gs_iconst p48_98 ?_
      refine Gs_zret p48_99 rfl (by first | exact Or.inl rfl | exact Or.inr rfl | (split <;> first | exact Or.inl rfl | exact Or.inr rfl)) ⟨_, rfl, ?_⟩
      first
        | (have hs := (item_r (ch := ch) (p := p) (A := A) e2).trans (if_pos ⟨h73, h91⟩)
           refine ⟨by rw [hs, if_neg (fun q => by cases q)], PlaceFr.trans (h70.2.1.fr.trans h88.2.1), fun p' A' q => ?_⟩
           rw [hs] at q
           injection q with q
           injection q with q1 q2
           subst q1 q2
           exact ⟨h88.2.2.1.trans (h70.2.2 h73).1, h88.2.2.2 h91⟩)
        | (have hn : item ch p A = none := by rw [item_r e2, if_neg (fun q => h91 q.2)]
           exact ⟨by rw [if_pos hn], PlaceFr.trans (h70.2.1.fr.trans h88.2.1), fun p' A' q => by rw [hn] at q; cases q⟩)
        | (have hn : item ch p A = none := by rw [item_r e2, if_neg (fun q => h73 q.1)]
           exact ⟨by rw [if_pos hn], PlaceFr.trans h70.2.1.fr, fun p' A' q => by rw [hn] at q; cases q⟩)
    · refine Gs_aload_n p48_76 rfl rfl ?_
      refine Gs_getR p48_77 (by first | rfl | assumption | exact (show isTale _ from by assumption).1 | exact (show isCamp _ _ from by assumption).1 | exact (show isRow _ _ from by assumption).1) (by rfl) ?_
      refine Gs_aload_n p48_80 rfl rfl ?_
      refine Gs_getR p48_81 (by first | rfl | assumption | exact (show isTale _ from by assumption).1 | exact (show isCamp _ _ from by assumption).1 | exact (show isRow _ _ from by assumption).1) (by rfl) ?_
      refine Gs_iconst p48_84 ?_
      refine Gs_callV1I p48_85 (by rfl) (by rfl) (by rfl) (Nat.le_of_ble_eq_true rfl) (by decide) (c_aget (a := 56) row55 rfl ⟨by omega, by omega⟩ (by rw [(h70.2.2 h73).2.1]; omega) (by rw [(h70.2.2 h73).2.1]; omega)) (by omega) ?_
      rw [if_pos ⟨by omega, by rw [(h70.2.2 h73).2.1]; omega⟩, show vA s70 56 0 = nmV ch (p + 1) from (h70.2.2 h73).2.2 0 (by omega)]
      refine Gs_callV1i p48_88 (by rfl) (by rfl) (by rfl) (Nat.le_of_ble_eq_true rfl) (by decide) (c_addRain (r1.num h70.2.1) ok (show 0 ≤ nmV ch (p + 1) by have := (h73 0 (by decide)).1; have := nmV_b ch (p + 1); have : ¬ nmV ch (p + 1) = -4 := (h73 0 (by decide)).1; omega) (nmV_b ch (p + 1)).2.1) (by omega) (fun z88 s88 h88 => ?_)
      rw [h88.1]
      refine Gs_ifb_eq (tgt := 98) p48_91 (by rfl) (fun h91 => ?_) (fun h91 => ?_)
      · refine Gs_iconst p48_98 ?_
        refine Gs_zret p48_99 rfl (by first | exact Or.inl rfl | exact Or.inr rfl | (split <;> first | exact Or.inl rfl | exact Or.inr rfl)) ⟨_, rfl, ?_⟩
        first
          | (have hs := (item_r (ch := ch) (p := p) (A := A) e2).trans (if_pos ⟨h73, h91⟩)
             refine ⟨by rw [hs, if_neg (fun q => by cases q)], PlaceFr.trans (h70.2.1.fr.trans h88.2.1), fun p' A' q => ?_⟩
             rw [hs] at q
             injection q with q
             injection q with q1 q2
             subst q1 q2
             exact ⟨h88.2.2.1.trans (h70.2.2 h73).1, h88.2.2.2 h91⟩)
          | (have hn : item ch p A = none := by rw [item_r e2, if_neg (fun q => h91 q.2)]
             exact ⟨by rw [if_pos hn], PlaceFr.trans (h70.2.1.fr.trans h88.2.1), fun p' A' q => by rw [hn] at q; cases q⟩)
          | (have hn : item ch p A = none := by rw [item_r e2, if_neg (fun q => h73 q.1)]
             exact ⟨by rw [if_pos hn], PlaceFr.trans h70.2.1.fr, fun p' A' q => by rw [hn] at q; cases q⟩)
      · refine Gs_iconst p48_94 ?_
        refine Gs_goto (tgt := 99) p48_95 (by rfl) ?_
        refine Gs_zret p48_99 rfl (by first | exact Or.inl rfl | exact Or.inr rfl | (split <;> first | exact Or.inl rfl | exact Or.inr rfl)) ⟨_, rfl, ?_⟩
        first
          | (have hs := (item_r (ch := ch) (p := p) (A := A) e2).trans (if_pos ⟨h73, h91⟩)
             refine ⟨by rw [hs, if_neg (fun q => by cases q)], PlaceFr.trans (h70.2.1.fr.trans h88.2.1), fun p' A' q => ?_⟩
             rw [hs] at q
             injection q with q
             injection q with q1 q2
             subst q1 q2
             exact ⟨h88.2.2.1.trans (h70.2.2 h73).1, h88.2.2.2 h91⟩)
          | (have hn : item ch p A = none := by rw [item_r e2, if_neg (fun q => h91 q.2)]
             exact ⟨by rw [if_pos hn], PlaceFr.trans (h70.2.1.fr.trans h88.2.1), fun p' A' q => by rw [hn] at q; cases q⟩)
          | (have hn : item ch p A = none := by rw [item_r e2, if_neg (fun q => h73 q.1)]
             exact ⟨by rw [if_pos hn], PlaceFr.trans h70.2.1.fr, fun p' A' q => by rw [hn] at q; cases q⟩)
  by_cases e3 : ch p = 99
  · refine Gs_lku (off := 96) (tgt := 100) p48_4 ⟨by omega, by omega⟩ (by decide) (by rw [e3]; rfl) (by rfl) ?_
    refine Gs_aload_n p48_100 rfl rfl ?_
    refine Gs_bipush p48_101 (by decide) ?_
    refine Gs_callV1i p48_103 (by rfl) (by rfl) (by rfl) (Nat.le_of_ble_eq_true rfl) (by decide) (c_nums t1 pp (by omega) (by omega) (by omega) (by omega)) (by omega) (fun z103 s103 h103 => ?_)
    rw [h103.1]
    refine Gs_ifb_eq (tgt := 127) p48_106 (by rfl) (fun h106 => ?_) (fun h106 => ?_)
    · refine Gs_iconst p48_127 ?_
      refine Gs_zret p48_128 rfl (by first | exact Or.inl rfl | exact Or.inr rfl | (split <;> first | exact Or.inl rfl | exact Or.inr rfl)) ⟨_, rfl, ?_⟩
      first
        | (have hs := (item_c (ch := ch) (p := p) (A := A) e3).trans (if_pos ⟨h106, h120⟩)
           refine ⟨by rw [hs, if_neg (fun q => by cases q)], PlaceFr.trans (h103.2.1.fr.trans h117.2.1), fun p' A' q => ?_⟩
           rw [hs] at q
           injection q with q
           injection q with q1 q2
           subst q1 q2
           exact ⟨h117.2.2.1.trans (h103.2.2 h106).1, h117.2.2.2 h120⟩)
        | (have hn : item ch p A = none := by rw [item_c e3, if_neg (fun q => h120 q.2)]
           exact ⟨by rw [if_pos hn], PlaceFr.trans (h103.2.1.fr.trans h117.2.1), fun p' A' q => by rw [hn] at q; cases q⟩)
        | (have hn : item ch p A = none := by rw [item_c e3, if_neg (fun q => h106 q.1)]
           exact ⟨by rw [if_pos hn], PlaceFr.trans h103.2.1.fr, fun p' A' q => by rw [hn] at q; cases q⟩)
    · refine Gs_aload_n p48_109 rfl rfl ?_
      refine Gs_getR p48_110 (by first | rfl | assumption | exact (show isTale _ from by assumption).1 | exact (show isCamp _ _ from by assumption).1 | exact (show isRow _ _ from by assumption).1) (by rfl) ?_
      refine Gs_aload_n p48_113 rfl rfl ?_
      refine Gs_getR p48_114 (by first | rfl | assumption | exact (show isTale _ from by assumption).1 | exact (show isCamp _ _ from by assumption).1 | exact (show isRow _ _ from by assumption).1) (by rfl) ?_
      refine Gs_callV1i p48_117 (by rfl) (by rfl) (by rfl) (Nat.le_of_ble_eq_true rfl) (by decide) (c_addCompany (v := fun i => nmV ch (pS ch (p + 1) i)) (r1.num h103.2.1) ok (h103.2.2 h106).2.1 (h103.2.2 h106).2.2 (fun j hj => by have := (h106 j hj).1; have := nmV_b ch (pS ch (p + 1) j); omega)) (by omega) (fun z117 s117 h117 => ?_)
      rw [h117.1]
      refine Gs_ifb_eq (tgt := 127) p48_120 (by rfl) (fun h120 => ?_) (fun h120 => ?_)
      · refine Gs_iconst p48_127 ?_
        refine Gs_zret p48_128 rfl (by first | exact Or.inl rfl | exact Or.inr rfl | (split <;> first | exact Or.inl rfl | exact Or.inr rfl)) ⟨_, rfl, ?_⟩
        first
          | (have hs := (item_c (ch := ch) (p := p) (A := A) e3).trans (if_pos ⟨h106, h120⟩)
             refine ⟨by rw [hs, if_neg (fun q => by cases q)], PlaceFr.trans (h103.2.1.fr.trans h117.2.1), fun p' A' q => ?_⟩
             rw [hs] at q
             injection q with q
             injection q with q1 q2
             subst q1 q2
             exact ⟨h117.2.2.1.trans (h103.2.2 h106).1, h117.2.2.2 h120⟩)
          | (have hn : item ch p A = none := by rw [item_c e3, if_neg (fun q => h120 q.2)]
             exact ⟨by rw [if_pos hn], PlaceFr.trans (h103.2.1.fr.trans h117.2.1), fun p' A' q => by rw [hn] at q; cases q⟩)
          | (have hn : item ch p A = none := by rw [item_c e3, if_neg (fun q => h106 q.1)]
             exact ⟨by rw [if_pos hn], PlaceFr.trans h103.2.1.fr, fun p' A' q => by rw [hn] at q; cases q⟩)
      · refine Gs_iconst p48_123 ?_
        refine Gs_goto (tgt := 128) p48_124 (by rfl) ?_
        refine Gs_zret p48_128 rfl (by first | exact Or.inl rfl | exact Or.inr rfl | (split <;> first | exact Or.inl rfl | exact Or.inr rfl)) ⟨_, rfl, ?_⟩
        first
          | (have hs := (item_c (ch := ch) (p := p) (A := A) e3).trans (if_pos ⟨h106, h120⟩)
             refine ⟨by rw [hs, if_neg (fun q => by cases q)], PlaceFr.trans (h103.2.1.fr.trans h117.2.1), fun p' A' q => ?_⟩
             rw [hs] at q
             injection q with q
             injection q with q1 q2
             subst q1 q2
             exact ⟨h117.2.2.1.trans (h103.2.2 h106).1, h117.2.2.2 h120⟩)
          | (have hn : item ch p A = none := by rw [item_c e3, if_neg (fun q => h120 q.2)]
             exact ⟨by rw [if_pos hn], PlaceFr.trans (h103.2.1.fr.trans h117.2.1), fun p' A' q => by rw [hn] at q; cases q⟩)
          | (have hn : item ch p A = none := by rw [item_c e3, if_neg (fun q => h106 q.1)]
             exact ⟨by rw [if_pos hn], PlaceFr.trans h103.2.1.fr, fun p' A' q => by rw [hn] at q; cases q⟩)
  refine Gs_lku (off := 125) (tgt := 129) p48_4 ⟨by omega, by omega⟩ (by decide) (lk_x e1 e2 e3) (by rfl) ?_
  refine Gs_iconst p48_129 ?_
  refine Gs_zret p48_130 rfl (by first | exact Or.inl rfl | exact Or.inr rfl | (split <;> first | exact Or.inl rfl | exact Or.inr rfl)) ⟨_, rfl, ?_⟩
  have hn : item ch p A = none := item_x e1 e2 e3
  exact ⟨by rw [if_pos hn], PlaceFr, fun p' A' q => by rw [hn] at q; cases q⟩
