/-! put, light, hand, join, pass -/
abbrev P20 (s : St) : St := pushS s 20 8 14
theorem cv_cong {s t : St} {c : Nat} (e : ∀ z, vA t (c + 2) z = vA s (c + 2) z) (n : Int) : cv t c n = cv s c n := by
  funext k w
  unfold cv cg
  simp only [e]
theorem mv_cong {s t : St} {a : Nat} (e : ∀ z, vA t a z = vA s a z) (o n : Int) : mv t a o n = mv s a o n := by
  funext k w
  unfold mv
  simp only [e]
theorem cv_P {s : St} {n : Int} : cv (P20 s) 14 n = cv s 14 n := cv_cong (fun z => push20_A (by omega) z) n
theorem CampOk.P {s : St} {n : Int} (h : CampOk s 14 n) : CampOk (P20 s) 14 n := h.cong (push20_F (by omega)) (push20_F (by omega)) (fun z => push20_A (by omega) z)
theorem TaleOk.P {s : St} (h : TaleOk s 5) : TaleOk (P20 s) 5 := h.cong (push20_F (by omega)) (push20_F (by omega)) (push20_F (by omega)) (fun z => push20_A (by omega) z) (fun z => push20_A (by omega) z)
theorem bh_P {s : St} (l w : Int) : bhI (P20 s) 5 l w = bhI s 5 l w := bhI_cong (push20_F (by omega)) (fun z => push20_A (by omega) z) l w
theorem rn_P {s : St} (x : Int) : rnI (P20 s) 5 x = rnI s 5 x := rnI_cong (push20_F (by omega)) (fun z => push20_A (by omega) z) x
theorem cg_P {s : St} (k w : Int) : cg (P20 s) 14 k w = cg s 14 k w := push20_A (by omega) _
theorem COp.A {s t : St} {n hr : Int} {V : Int → Int → Int} (o : COp (P20 s) t 14 n V hr) {a : Nat} (h1 : a < 22 ∨ 46 ≤ a) (h2 : a ≠ 16) (z : Int) : vA t a z = vA s a z := (o.2.1 a z h2).trans (push20_A h1 z)
theorem COp.F {s t : St} {n hr : Int} {V : Int → Int → Int} (o : COp (P20 s) t 14 n V hr) {a k : Nat} (h1 : a < 20 ∨ 46 ≤ a) (h2 : ¬ (a = 14 ∧ k = 2)) : vF t a k = vF s a k := (o.2.2.1 a k h2).trans (push20_F h1)
/-- a call that is remembered, both sides with the same table behind it -/
theorem Both.pushed {X : vX} {K : Int} {s : St} {c m D D' : Nat} {as : List Value} {zc hr : Int} {V : Int → Int → Int} (hR : Rel K s) (hK : K < 512) (h1 : OkI X D c (.ref 0 :: as) s (fun z t => z = zc ∧ COp (P20 s) t 14 (vA s 96 2) V hr)) (h2 : ∀ t, COp (P20 s) t 14 (vA s 96 2) V hr → OkI X D' m (.ref 95 :: as) t (fun z u => z = zc ∧ MOpH (remS t) u 98 (vA s 96 2) V hr)) (hz : rg zc) (g : GoodV V (vA s 96 2) (vF s 5 4) (K + 1)) (hr0 : 0 ≤ hr) (hr1 : hr ≤ 24 * (K + 1)) (hD : D ≤ 100) (hD' : D' ≤ 100) : Both X K s c m as := by
  refine Both.of h1 hD hD' (fun z t p => h2 t p.2) (fun z t z' u p p' => ⟨p'.1.trans p.1.symm, p.1 ▸ hz, ?_⟩)
  obtain ⟨_, o⟩ := p
  obtain ⟨_, q1, q2, q3, q4, q5⟩ := p'
  have h4 := hR.2.2.2.2.1
  have h0 := hR.1
  refine hR.pushed (t1 := t) (fun a z e => o.2.1 a z e) (fun a k e => o.2.2.1 a k e) (fun a z e => q2 a z e) q3 ?_
  refine h4.of (V := V) ?_ ?_ ?_ ?_ (by omega) ?_ q1 g (fun k w c0 c1 c2 c3 => ?_)
  · rw [q3, rem_F (by omega), o.F (by omega) (by omega)]
  · rw [q3, rem_F (by omega), o.2.2.2.1, q4]
  · rw [q3, rem_F (by omega), o.2.2.2.1]; exact hr0
  · rw [q3, rem_F (by omega), o.2.2.2.1]; exact hr1
  · rw [← o.1]; exact cv_cong (fun z => by rw [q2 _ _ (by omega), rem_A (by omega)]) _
  · rw [q5 k w c0 c1 c2 c3, rem_A (by omega), o.A (by omega) (by omega)]
theorem mv_rem {t : St} (n : Int) : mv (remS t) 98 0 n = mv t 98 0 n := mv_cong (fun z => rem_A (by omega) z) 0 n
theorem MT.rem {t : St} (h : MT t) : MT (remS t) := h.cong (fun z => rem_A (by omega) z)
theorem MC.rem {t : St} {n : Int} (h : MC t 98 n) : MC (remS t) 98 n := h.cong (fun z => rem_A (by omega) z)
theorem bh_rem {t : St} (l w : Int) : bhM (remS t) l w = bhM t l w := bhM_cong (fun z => rem_A (by omega) z) l w
theorem rn_rem {t : St} (x : Int) : rnM (remS t) x = rnM t x := rnM_cong (fun z => rem_A (by omega) z) x
/-- what the reference needs behind the class' own turn -/
theorem COp.ref {s t : St} {K hr : Int} {V : Int → Int → Int} (hR : Rel K s) (o : COp (P20 s) t 14 (vA s 96 2) V hr) : MT t ∧ MC t 98 (vA t 96 2) ∧ vA t 96 2 = vA s 96 2 ∧ vA t 96 0 = vF s 5 4 ∧ vF t 95 5 = vF s 20 2 ∧ mv t 98 0 (vA s 96 2) = cv s 14 (vA s 96 2) ∧ vA t 98 32 = vF s 14 2 ∧ (∀ z, vA t 98 z = vA s 98 z) ∧ (∀ x, rnM t x = rnI s 5 x) ∧ (∀ l w, 0 ≤ l → l < vF s 5 4 → 0 ≤ w → w < 4 → bhM t l w = bhI s 5 l w) := by
  have h4 := hR.2.2.2.2.1
  have h3 := hR.2.2.2.1
  have e96 : ∀ z, vA t 96 z = vA s 96 z := fun z => o.A (by omega) (by omega) z
  have e98 : ∀ z, vA t 98 z = vA s 98 z := fun z => o.A (by omega) (by omega) z
  refine ⟨hR.MT.cong e96, by rw [e96]; exact h4.mc.cong e98, e96 2, by rw [e96]; exact h3.2.2.1, ?_, ?_, ?_, e98, fun x => ?_, fun l w b0 b1 b2 b3 => ?_⟩
  · rw [o.F (by omega) (by omega)]; exact hR.2.2.2.2.2.1.2.2.2.2.1
  · rw [mv_cong e98, h4.tab]
  · rw [e98]; exact h4.2.1.symm
  · rw [rnM_cong e96, h3.rn]
  · rw [bhM_cong e96, h3.bh b0 b1 b2 b3]
set_option maxHeartbeats 1000000 in
set_option maxRecDepth 4000 in
theorem k_put {X : vX} {s : St} {k w n : Int} (hT : TaleOk s 5) (hC : CampOk s 14 n) (hp : 0 ≤ vF s 20 1 ∧ vF s 20 1 < 100000 ∧ 0 ≤ vF s 20 2 ∧ vF s 20 2 ≤ 8) (h0 : 0 ≤ k) (h1 : k < n) (h2 : 0 ≤ w) (h3 : w < 4) (c1 : 1 ≤ cg s 14 k 0) (c2 : 1 ≤ cg s 14 k (2 + w)) (hto : cg s 14 k 7 < 100000) : OkI X 5 100 [.ref 0, .int (iI k), .int (iI w)] s (fun z t => z = (feedV (cv s 14 n) (bhI s 5 (cv s 14 n k 1) w) k w) k 1 ∧ COp (P20 s) t 14 n (feedV (cv s 14 n) (bhI s 5 (cv s 14 n k 1) w) k w) (vF s 14 2)) := by
  refine Ok.of (r := vm_m100) (ls := [some (.ref 0), some (.int (iI k)), some (.int (iI w))]) rfl (Nat.le_of_ble_eq_true rfl) rfl (fun d hd => ?_)
  have hn := hC.2.1
  have O := (COp.refl hC.P).feed hT.P (by decide) (by decide) h0 h1 h2 h3 (k := k) (w := w) (by rw [cv_at h0 h1 (by omega) (by omega), cg_P]; exact c2) (by rw [cv_at h0 h1 (by omega) (by omega), cg_P]; exact hto)
  rw [cv_P, bh_P, show vF (P20 s) 14 2 = vF s 14 2 from push20_F (by omega)] at O
  refine Gs_aload_n p100_0 rfl rfl ?_
  refine Gs_getR p100_1 (by first | rfl | assumption | exact (show isTale _ from by assumption).1 | exact (show isCamp _ _ from by assumption).1 | exact (show isRow _ _ from by assumption).1) (by rfl) ?_
  refine Gs_iload_n p100_4 rfl rfl ?_
  refine Gs_callV1I p100_5 (by rfl) (by rfl) (by first | rfl | assumption | exact (show isTale _ from by assumption).1 | exact (show isCamp _ _ from by assumption).1 | exact (show isRow _ _ from by assumption).1) (Nat.le_of_ble_eq_true rfl) (by decide) (c_isCompany camp14 hC ⟨by omega, by omega⟩) (by omega) ?_
  refine Gs_ifb_eq (tgt := 18) p100_8 (by rfl) (fun h8 => ?_) (fun h8 => ?_)
  · refine Gs_iconst p100_18 ?_
    refine Gs_iret p100_19 rfl ⟨_, rfl, ?_⟩
    exfalso; omega
  · refine Gs_iload_n p100_11 rfl rfl ?_
    refine Gs_callS1I p100_12 (by rfl) (Nat.le_of_ble_eq_true rfl) (by decide) (c_isWood ⟨by omega, by omega⟩) (by omega) ?_
    refine Gs_ifb_ne (tgt := 20) p100_15 (by rfl) (fun h15 => ?_) (fun h15 => ?_)
    · refine Gs_aload_n p100_20 rfl rfl ?_
      refine Gs_getR p100_21 (by first | rfl | assumption | exact (show isTale _ from by assumption).1 | exact (show isCamp _ _ from by assumption).1 | exact (show isRow _ _ from by assumption).1) (by rfl) ?_
      refine Gs_iload_n p100_24 rfl rfl ?_
      refine Gs_iload_n p100_25 rfl rfl ?_
      refine Gs_callV2I p100_26 (by rfl) (by rfl) (by first | rfl | assumption | exact (show isTale _ from by assumption).1 | exact (show isCamp _ _ from by assumption).1 | exact (show isRow _ _ from by assumption).1) (Nat.le_of_ble_eq_true rfl) (by decide) (c_canFeed camp14 hC h0 h1 h2 h3) (by omega) ?_
      refine Gs_ifb_ne (tgt := 35) p100_29 (by rfl) (fun h29 => ?_) (fun h29 => ?_)
      · refine Gs_aload_n p100_35 rfl rfl ?_
        refine Gs_getR p100_36 (by first | rfl | assumption | exact (show isTale _ from by assumption).1 | exact (show isCamp _ _ from by assumption).1 | exact (show isRow _ _ from by assumption).1) (by rfl) ?_
        refine Gs_aload_n p100_39 rfl rfl ?_
        refine Gs_getR p100_40 (by first | rfl | assumption | exact (show isTale _ from by assumption).1 | exact (show isCamp _ _ from by assumption).1 | exact (show isRow _ _ from by assumption).1) (by rfl) ?_
        refine Gs_callV1W p100_43 (by rfl) (by rfl) (by first | rfl | assumption | exact (show isTale _ from by assumption).1 | exact (show isCamp _ _ from by assumption).1 | exact (show isRow _ _ from by assumption).1) (Nat.le_of_ble_eq_true rfl) (by decide) (c_push shelf20 camp14 hC (by omega) hp.1 hp.2.1 hp.2.2.1 (by omega)) (by omega) ?_
        refine Gs_aload_n p100_46 rfl rfl ?_
        refine Gs_getR p100_47 (by first | rfl | assumption | exact (show isTale _ from by assumption).1 | exact (show isCamp _ _ from by assumption).1 | exact (show isRow _ _ from by assumption).1) (by rfl) ?_
        refine Gs_iload_n p100_50 rfl rfl ?_
        refine Gs_iload_n p100_51 rfl rfl ?_
        refine Gs_callV2W p100_52 (by rfl) (by rfl) (by first | rfl | assumption | exact (show isTale _ from by assumption).1 | exact (show isCamp _ _ from by assumption).1 | exact (show isRow _ _ from by assumption).1) (Nat.le_of_ble_eq_true rfl) (by decide) (c_feed camp14 hC.P (by decide) (by decide) tale5 hT.P h0 h1 h2 h3 (by rw [cg_P]; exact c2) (by rw [cg_P]; exact hto)) (by omega) ?_
        refine Gs_aload_n p100_55 rfl rfl ?_
        refine Gs_getR p100_56 (by first | rfl | assumption | exact (show isTale _ from by assumption).1 | exact (show isCamp _ _ from by assumption).1 | exact (show isRow _ _ from by assumption).1) (by rfl) ?_
        refine Gs_iload_n p100_59 rfl rfl ?_
        refine Gs_iconst p100_60 ?_
        refine Gs_callV2I p100_61 (by rfl) (by rfl) (by first | rfl | assumption | exact (show isTale _ from by assumption).1 | exact (show isCamp _ _ from by assumption).1 | exact (show isRow _ _ from by assumption).1) (Nat.le_of_ble_eq_true rfl) (by decide) (c_Cget camp14 O.2.2.2.2 h0 h1 (by omega) (by omega)) (by omega) ?_
        refine Gs_iret p100_64 rfl ⟨_, rfl, ?_⟩
        exact ⟨O.at h0 h1 (by omega) (by omega), O⟩
      · refine Gs_bipush p100_32 (by decide) ?_
        refine Gs_iret p100_34 rfl ⟨_, rfl, ?_⟩
        exfalso; omega
    · refine Gs_iconst p100_18 ?_
      refine Gs_iret p100_19 rfl ⟨_, rfl, ?_⟩
      exfalso; omega

set_option maxHeartbeats 1000000 in
set_option maxRecDepth 4000 in
theorem k_put_no {X : vX} {s : St} {k w n : Int} (hz : rg k) (hw : rg w) (hC : CampOk s 14 n) (hno : ¬ (((0 ≤ k ∧ k < n) ∧ (0 ≤ w ∧ w < 4)) ∧ (1 ≤ cg s 14 k 0 ∧ 1 ≤ cg s 14 k (2 + w)))) : OkI X 5 100 [.ref 0, .int (iI k), .int (iI w)] s (Is1 (if (0 ≤ k ∧ k < n) ∧ (0 ≤ w ∧ w < 4) then -2 else -1) s) := by
  refine Ok.of (r := vm_m100) (ls := [some (.ref 0), some (.int (iI k)), some (.int (iI w))]) rfl (Nat.le_of_ble_eq_true rfl) rfl (fun d hd => ?_)
  refine Gs_aload_n p100_0 rfl rfl ?_
  refine Gs_getR p100_1 (by first | rfl | assumption | exact (show isTale _ from by assumption).1 | exact (show isCamp _ _ from by assumption).1 | exact (show isRow _ _ from by assumption).1) (by rfl) ?_
  refine Gs_iload_n p100_4 rfl rfl ?_
  refine Gs_callV1I p100_5 (by rfl) (by rfl) (by first | rfl | assumption | exact (show isTale _ from by assumption).1 | exact (show isCamp _ _ from by assumption).1 | exact (show isRow _ _ from by assumption).1) (Nat.le_of_ble_eq_true rfl) (by decide) (c_isCompany camp14 hC hz) (by omega) ?_
  refine Gs_ifb_eq (tgt := 18) p100_8 (by rfl) (fun h8 => ?_) (fun h8 => ?_)
  · refine Gs_iconst p100_18 ?_
    refine Gs_iret p100_19 rfl ⟨_, rfl, ?_⟩
    refine ⟨?_, rfl⟩
    first | (rw [if_neg (by omega)]; done) | (rw [if_pos (by omega)]; done)
  · refine Gs_iload_n p100_11 rfl rfl ?_
    refine Gs_callS1I p100_12 (by rfl) (Nat.le_of_ble_eq_true rfl) (by decide) (c_isWood hw) (by omega) ?_
    refine Gs_ifb_ne (tgt := 20) p100_15 (by rfl) (fun h15 => ?_) (fun h15 => ?_)
    · refine Gs_aload_n p100_20 rfl rfl ?_
      refine Gs_getR p100_21 (by first | rfl | assumption | exact (show isTale _ from by assumption).1 | exact (show isCamp _ _ from by assumption).1 | exact (show isRow _ _ from by assumption).1) (by rfl) ?_
      refine Gs_iload_n p100_24 rfl rfl ?_
      refine Gs_iload_n p100_25 rfl rfl ?_
      refine Gs_callV2I p100_26 (by rfl) (by rfl) (by first | rfl | assumption | exact (show isTale _ from by assumption).1 | exact (show isCamp _ _ from by assumption).1 | exact (show isRow _ _ from by assumption).1) (Nat.le_of_ble_eq_true rfl) (by decide) (c_canFeed camp14 hC (by omega) (by omega) (by omega) (by omega)) (by omega) ?_
      refine Gs_ifb_ne (tgt := 35) p100_29 (by rfl) (fun h29 => ?_) (fun h29 => ?_)
      · exfalso; omega
      · refine Gs_bipush p100_32 (by decide) ?_
        refine Gs_iret p100_34 rfl ⟨_, rfl, ?_⟩
        refine ⟨?_, rfl⟩
        first | (rw [if_neg (by omega)]; done) | (rw [if_pos (by omega)]; done)
    · refine Gs_iconst p100_18 ?_
      refine Gs_iret p100_19 rfl ⟨_, rfl, ?_⟩
      refine ⟨?_, rfl⟩
      first | (rw [if_neg (by omega)]; done) | (rw [if_pos (by omega)]; done)

set_option maxHeartbeats 1000000 in
set_option maxRecDepth 4000 in
theorem m_put {X : vX} {s : St} {k w : Int} (hT : MT s) (hm : MC s 98 (vA s 96 2)) (hu : 0 ≤ vF s 95 5 ∧ vF s 95 5 ≤ 8) (h0 : 0 ≤ k) (h1 : k < vA s 96 2) (h2 : 0 ≤ w) (h3 : w < 4) (c1 : 0 < vA s 98 k) (c2 : 0 < vA s 98 (8 + 4 * k + w)) (hl : 0 ≤ vA s 98 (4 + k) ∧ vA s 98 (4 + k) < vA s 96 0) : OkI X 4 166 [.ref 95, .int (iI k), .int (iI w)] s (fun z u => z = (feedV (mv s 98 0 (vA s 96 2)) (bhM s (vA s 98 (4 + k)) w) k w) k 1 ∧ MOpH (remS s) u 98 (vA s 96 2) (feedV (mv s 98 0 (vA s 96 2)) (bhM s (vA s 98 (4 + k)) w) k w) (vA s 98 32)) := by
  refine Ok.of (r := vm_m166) (ls := [some (.ref 95), some (.int (iI k)), some (.int (iI w))]) rfl (Nat.le_of_ble_eq_true rfl) rfl (fun d hd => ?_)
  obtain ⟨a1, a2, a3, a4, a5, a6, a7, a8⟩ := id hT
  have e98 : ∀ z, vA (remS s) 98 z = vA s 98 z := fun z => rem_A (by omega) z
  have e96 : ∀ z, vA (remS s) 96 z = vA s 96 z := fun z => rem_A (by omega) z
  refine Gs_aload_n p166_0 rfl rfl ?_
  refine Gs_iload_n p166_1 rfl rfl ?_
  refine Gs_callV1I p166_2 (by rfl) (by rfl) (by first | rfl | assumption | exact (show isTale _ from by assumption).1 | exact (show isCamp _ _ from by assumption).1 | exact (show isRow _ _ from by assumption).1) (Nat.le_of_ble_eq_true rfl) (by decide) (c_misCompany hT ⟨by omega, by omega⟩) (by omega) ?_
  refine Gs_ifb_eq (tgt := 15) p166_5 (by rfl) (fun h5 => ?_) (fun h5 => ?_)
  · refine Gs_iconst p166_15 ?_
    refine Gs_iret p166_16 rfl ⟨_, rfl, ?_⟩
    exfalso; omega
  · refine Gs_iload_n p166_8 rfl rfl ?_
    refine Gs_callS1I p166_9 (by rfl) (Nat.le_of_ble_eq_true rfl) (by decide) (c_misWood ⟨by omega, by omega⟩) (by omega) ?_
    refine Gs_ifb_ne (tgt := 17) p166_12 (by rfl) (fun h12 => ?_) (fun h12 => ?_)
    · refine Gs_aload_n p166_17 rfl rfl ?_
      refine Gs_getR p166_18 (by first | rfl | assumption | exact (show isTale _ from by assumption).1 | exact (show isCamp _ _ from by assumption).1 | exact (show isRow _ _ from by assumption).1) (by rfl) ?_
      refine Gs_iload_n p166_21 rfl rfl ?_
      refine Gs_iload_n p166_22 rfl rfl ?_
      refine Gs_callS3I p166_23 (by rfl) (Nat.le_of_ble_eq_true rfl) (by decide) (c_mayPut isA98 hm h0 h1 (by omega) h2 h3) (by omega) ?_
      refine Gs_ifb_ne (tgt := 32) p166_26 (by rfl) (fun h26 => ?_) (fun h26 => ?_)
      · refine Gs_aload_n p166_32 rfl rfl ?_
        refine Gs_callV0W p166_33 (by rfl) (by rfl) (by first | rfl | assumption | exact (show isTale _ from by assumption).1 | exact (show isCamp _ _ from by assumption).1 | exact (show isRow _ _ from by assumption).1) (Nat.le_of_ble_eq_true rfl) (by decide) (c_remember hu.1 hu.2) (by omega) ?_
        refine Gs_aload_n p166_36 rfl rfl ?_
        refine Gs_aload_n p166_37 rfl rfl ?_
        refine Gs_getR p166_38 (by first | rfl | assumption | exact (show isTale _ from by assumption).1 | exact (show isCamp _ _ from by assumption).1 | exact (show isRow _ _ from by assumption).1) (by rfl) ?_
        refine Gs_iload_n p166_41 rfl rfl ?_
        refine Gs_iload_n p166_42 rfl rfl ?_
        refine Gs_callV3v p166_43 (by rfl) (by rfl) (by rfl) (Nat.le_of_ble_eq_true rfl) (by decide) (c_puts isA98 (n := vA s 96 2) hm.rem h0 h1 (by omega) h2 h3 (by decide) hT.rem (fun _ => by rw [e98, e96]; exact hl)) (by omega) (fun s43 h43 => ?_)
        rw [mv_rem, bh_rem, e98] at h43
        refine Gs_aload_n p166_46 rfl rfl ?_
        refine Gs_getR p166_47 (by first | rfl | assumption | exact (show isTale _ from by assumption).1 | exact (show isCamp _ _ from by assumption).1 | exact (show isRow _ _ from by assumption).1) (by rfl) ?_
        refine Gs_iconst p166_50 ?_
        refine Gs_iload_n p166_51 rfl rfl ?_
        refine Gs_iadd p166_52 ?_
        refine Gs_iald p166_53 (by first | rfl | assumption | exact (show isTale _ from by assumption).1 | exact (show isCamp _ _ from by assumption).1 | exact (show isRow _ _ from by assumption).1) (by omega) (by omega) (by omega) ?_
        refine Gs_iret p166_54 rfl ⟨_, rfl, ?_⟩
        have H := h43.h
        rw [e98] at H
        exact ⟨by rw [← mv1 (n := vA s 96 2) h0 h1, h43.1], H⟩
      · refine Gs_bipush p166_29 (by decide) ?_
        refine Gs_iret p166_31 rfl ⟨_, rfl, ?_⟩
        exfalso; omega
    · refine Gs_iconst p166_15 ?_
      refine Gs_iret p166_16 rfl ⟨_, rfl, ?_⟩
      exfalso; omega

set_option maxHeartbeats 1000000 in
set_option maxRecDepth 4000 in
theorem m_put_no {X : vX} {s : St} {k w : Int} (hz : rg k) (hw : rg w) (hT : MT s) (hm : MC s 98 (vA s 96 2)) (hno : ¬ (((0 ≤ k ∧ k < vA s 96 2) ∧ (0 ≤ w ∧ w < 4)) ∧ (0 < vA s 98 k ∧ 0 < vA s 98 (8 + 4 * k + w)))) : OkI X 4 166 [.ref 95, .int (iI k), .int (iI w)] s (Is1 (if (0 ≤ k ∧ k < vA s 96 2) ∧ (0 ≤ w ∧ w < 4) then -2 else -1) s) := by
  refine Ok.of (r := vm_m166) (ls := [some (.ref 95), some (.int (iI k)), some (.int (iI w))]) rfl (Nat.le_of_ble_eq_true rfl) rfl (fun d hd => ?_)
  obtain ⟨a1, a2, a3, a4, a5, a6, a7, a8⟩ := id hT
  refine Gs_aload_n p166_0 rfl rfl ?_
  refine Gs_iload_n p166_1 rfl rfl ?_
  refine Gs_callV1I p166_2 (by rfl) (by rfl) (by first | rfl | assumption | exact (show isTale _ from by assumption).1 | exact (show isCamp _ _ from by assumption).1 | exact (show isRow _ _ from by assumption).1) (Nat.le_of_ble_eq_true rfl) (by decide) (c_misCompany hT hz) (by omega) ?_
  refine Gs_ifb_eq (tgt := 15) p166_5 (by rfl) (fun h5 => ?_) (fun h5 => ?_)
  · refine Gs_iconst p166_15 ?_
    refine Gs_iret p166_16 rfl ⟨_, rfl, ?_⟩
    refine ⟨?_, rfl⟩
    first | (rw [if_neg (by omega)]; done) | (rw [if_pos (by omega)]; done)
  · refine Gs_iload_n p166_8 rfl rfl ?_
    refine Gs_callS1I p166_9 (by rfl) (Nat.le_of_ble_eq_true rfl) (by decide) (c_misWood hw) (by omega) ?_
    refine Gs_ifb_ne (tgt := 17) p166_12 (by rfl) (fun h12 => ?_) (fun h12 => ?_)
    · refine Gs_aload_n p166_17 rfl rfl ?_
      refine Gs_getR p166_18 (by first | rfl | assumption | exact (show isTale _ from by assumption).1 | exact (show isCamp _ _ from by assumption).1 | exact (show isRow _ _ from by assumption).1) (by rfl) ?_
      refine Gs_iload_n p166_21 rfl rfl ?_
      refine Gs_iload_n p166_22 rfl rfl ?_
      refine Gs_callS3I p166_23 (by rfl) (Nat.le_of_ble_eq_true rfl) (by decide) (c_mayPut isA98 hm (by omega) (by omega) (by omega) (by omega) (by omega)) (by omega) ?_
      refine Gs_ifb_ne (tgt := 32) p166_26 (by rfl) (fun h26 => ?_) (fun h26 => ?_)
      · exfalso; omega
      · refine Gs_bipush p166_29 (by decide) ?_
        refine Gs_iret p166_31 rfl ⟨_, rfl, ?_⟩
        refine ⟨?_, rfl⟩
        first | (rw [if_neg (by omega)]; done) | (rw [if_pos (by omega)]; done)
    · refine Gs_iconst p166_15 ?_
      refine Gs_iret p166_16 rfl ⟨_, rfl, ?_⟩
      refine ⟨?_, rfl⟩
      first | (rw [if_neg (by omega)]; done) | (rw [if_pos (by omega)]; done)

theorem T_put {X : vX} {K : Int} {s : St} (hR : Rel K s) (hK : K < 512) {x1 x2 : Int} (g1 : rg x1) (g2 : rg x2) : Both X K s 100 166 [.int (iI x1), .int (iI x2)] := by
  obtain ⟨h0, h1, h2, h3, h4, h5, h6⟩ := id hR
  obtain ⟨p1, p2, p3, p4, p5⟩ := hR.ok20 hK
  have hMT := hR.MT
  by_cases c : ((0 ≤ x1 ∧ x1 < vA s 96 2) ∧ (0 ≤ x2 ∧ x2 < 4)) ∧ (1 ≤ cg s 14 x1 0 ∧ 1 ≤ cg s 14 x1 (2 + x2))
  · obtain ⟨⟨⟨b0, b1⟩, b2, b3⟩, c1, c2⟩ := c
    have g := h4.good
    obtain ⟨f1, f2, f3, f4⟩ := g x1 b0 b1
    have v0 : cv s 14 (vA s 96 2) x1 0 = cg s 14 x1 0 := cv_at b0 b1 (by omega) (by omega)
    have v2 : cv s 14 (vA s 96 2) x1 (2 + x2) = cg s 14 x1 (2 + x2) := cv_at b0 b1 (by omega) (by omega)
    have v7 : cv s 14 (vA s 96 2) x1 7 = cg s 14 x1 7 := cv_at b0 b1 (by omega) (by omega)
    have lin := f4 (by omega)
    have hn := h4.1.2.1
    have hL : vF s 5 4 ≤ 9 := h3.1.2.1
    have hb : bhI s 5 (cv s 14 (vA s 96 2) x1 1) x2 = -4 ∨ (0 ≤ bhI s 5 (cv s 14 (vA s 96 2) x1 1) x2 ∧ bhI s 5 (cv s 14 (vA s 96 2) x1 1) x2 < vF s 5 4) := by
      by_cases e : bhI s 5 (cv s 14 (vA s 96 2) x1 1) x2 = -4
      · exact Or.inl e
      · exact Or.inr (h3.bh_line e)
    have gg := g.feed b0 b1 b2 b3 (w := x2) (by omega) (by omega) hb hL (by omega)
    have hh := h4.1.2.2.2.1
    have hh2 := h4.2.2.1
    refine Both.pushed (D := 5) (D' := 4) hR hK (k_put h3.1 h4.1 ⟨p1, p2, p3, p4⟩ b0 b1 b2 b3 c1 c2 (by omega)) (fun t o => ?_) ?_ gg hh (by omega) (by decide) (by decide)
    · obtain ⟨q1, q2, q3, q4, q5, q6, q7, q8, q9, q10⟩ := o.ref hR
      have e0 : vA t 98 x1 = cg s 14 x1 0 := by rw [q8, h4.v0 b0 b1 (by omega) (by omega), mi_0]
      have e1 : vA t 98 (4 + x1) = cv s 14 (vA s 96 2) x1 1 := by rw [cv_at b0 b1 (by omega) (by omega), q8, h4.v0 b0 b1 (by omega) (by omega), mi_1]
      have e2 : vA t 98 (8 + 4 * x1 + x2) = cg s 14 x1 (2 + x2) := by rw [q8, h4.v0 b0 b1 (by omega) (by omega), mi_2 b2 b3]
      have M := m_put (X := X) q1 q2 ⟨by omega, by omega⟩ b0 (by rw [q3]; exact b1) b2 b3 (by omega) (by omega) (by rw [e1, q4]; exact lin)
      rw [q3, q6, q7, e1, q10 _ _ lin.1 lin.2 b2 b3] at M
      exact M
    · have := (gg x1 b0 b1).1 1 (by omega) (by omega)
      have l := lwA
      exact ⟨by omega, by omega⟩
  · refine Both.q hR (k_put_no g1 g2 h4.1 c) (m_put_no g1 g2 hMT h4.mc ?_) (by decide) (by decide) rfl ?_ (Kept.rfl' s)
    · intro q
      obtain ⟨⟨⟨b0, b1⟩, b2, b3⟩, c1, c2⟩ := q
      refine c ⟨⟨⟨b0, b1⟩, b2, b3⟩, ?_, ?_⟩
      · rw [h4.v0 b0 b1 (by omega) (by omega), mi_0]; omega
      · rw [h4.v0 b0 b1 (by omega) (by omega), mi_2 b2 b3]; omega
    · split <;> exact ⟨by omega, by omega⟩