/-! the reader, the class' side: items -/
abbrev AS : Type := Int × (Int → Int) × Int × (Int → Int) × Int × (Int → Int → Int)
def AS.L (A : AS) : Int := A.1
def AS.nx (A : AS) : Int → Int := A.2.1
def AS.R (A : AS) : Int := A.2.2.1
def AS.ra (A : AS) : Int → Int := A.2.2.2.1
def AS.N (A : AS) : Int := A.2.2.2.2.1
def AS.cm (A : AS) : Int → Int → Int := A.2.2.2.2.2
def coV (v : Nat → Int) (w : Int) : Int := if w = 0 then v 1 else if w = 1 then v 0 else if w < 6 then v w.toNat else if w = 6 then -4 else 0
def AS.aL (A : AS) (v : Int → Int) : AS := ⟨A.L + 1, fun j => if 4 * A.L ≤ j then v (j - 4 * A.L) else A.nx j, A.R, A.ra, A.N, A.cm⟩
def AS.aR (A : AS) (v : Int) : AS := ⟨A.L, A.nx, A.R + 1, fun j => if j = A.R then v else A.ra j, A.N, A.cm⟩
def AS.aC (A : AS) (v : Nat → Int) : AS := ⟨A.L, A.nx, A.R, A.ra, A.N + 1, fun k w => if k = A.N then coV v w else A.cm k w⟩
theorem aL_nx (A : AS) (v : Int → Int) (j : Int) : (A.aL v).nx j = if 4 * A.L ≤ j then v (j - 4 * A.L) else A.nx j := rfl
theorem aR_ra (A : AS) (v j : Int) : (A.aR v).ra j = if j = A.R then v else A.ra j := rfl
theorem aC_cm (A : AS) (v : Nat → Int) (k w : Int) : (A.aC v).cm k w = if k = A.N then coV v w else A.cm k w := rfl
theorem aC_L (A : AS) (v : Nat → Int) : (A.aC v).L = A.L := rfl
theorem aL_L (A : AS) (v : Int → Int) : (A.aL v).L = A.L + 1 := rfl
def AOk (A : AS) : Prop := 0 ≤ A.L ∧ A.L ≤ 9 ∧ 0 ≤ A.R ∧ A.R ≤ 8 ∧ 0 ≤ A.N ∧ A.N ≤ 4 ∧ (∀ j, 0 ≤ j → j < 4 * A.L → 0 ≤ A.nx j ∧ A.nx j ≤ 9) ∧ (∀ j, 0 ≤ j → j < A.R → 0 ≤ A.ra j ∧ A.ra j ≤ 3) ∧ ∀ k, 0 ≤ k → k < A.N → (1 ≤ A.cm k 0 ∧ A.cm k 0 ≤ 20) ∧ (0 ≤ A.cm k 1 ∧ A.cm k 1 < A.L) ∧ (∀ w, 2 ≤ w → w < 6 → 0 ≤ A.cm k w ∧ A.cm k w ≤ 9) ∧ A.cm k 6 = -4 ∧ A.cm k 7 = 0
abbrev cOk (L : Int) (v : Nat → Int) : Prop := v 0 < L ∧ (1 ≤ v 1 ∧ v 1 ≤ 20) ∧ ∀ w : Nat, w < 4 → v (2 + w) ≤ 9
def item (ch : Int → Int) (p : Int) (A : AS) : Option (Int × AS) :=
  if ch p = 116 then (if figOk ch (p + 1) ∧ A.L < 9 then some (p + 6, A.aL (fun j => fg (ch (p + 1 + j)))) else none)
  else if ch p = 114 then (if nOk ch (p + 1) 1 ∧ A.R < 8 ∧ nmV ch (p + 1) ≤ 3 then some (pS ch (p + 1) 1, A.aR (nmV ch (p + 1))) else none)
  else if ch p = 99 then (if nOk ch (p + 1) 6 ∧ A.N < 4 ∧ cOk A.L (fun i => nmV ch (pS ch (p + 1) i)) then some (pS ch (p + 1) 6, A.aC (fun i => nmV ch (pS ch (p + 1) i))) else none)
  else none
theorem item_ok {ch : Int → Int} {p p' : Int} {A A' : AS} (h : item ch p A = some (p', A')) (ok : AOk A) : AOk A' ∧ p + 1 ≤ p' ∧ p' ≤ p + 1000 := by
  obtain ⟨a1, a2, a3, a4, a5, a6, a7, a8, a9⟩ := ok
  unfold item at h
  split at h
  · split at h
    · next q =>
      obtain ⟨⟨q1, q2⟩, q3⟩ := q
      injection h with h
      injection h with e1 e2
      subst e1 e2
      refine ⟨⟨by show 0 ≤ A.L + 1; omega, by show A.L + 1 ≤ 9; omega, a3, a4, a5, a6, fun j j0 j1 => ?_, a8, fun k k0 k1 => ?_⟩, by omega, by omega⟩
      · rw [aL_nx]
        have j1' : j < 4 * (A.L + 1) := j1
        by_cases c : 4 * A.L ≤ j
        · rw [if_pos c]
          have := fg_b (ch (p + 1 + (j - 4 * A.L)))
          have := q1 (j - 4 * A.L).toNat (by omega)
          rw [show (((j - 4 * A.L).toNat : Nat) : Int) = j - 4 * A.L by omega] at this
          omega
        · rw [if_neg c]
          exact a7 j j0 (by omega)
      · have := a9 k k0 k1
        exact ⟨this.1, ⟨this.2.1.1, Int.lt_add_one_of_le (Int.le_of_lt this.2.1.2)⟩, this.2.2⟩
    · cases h
  · split at h
    · split at h
      · next q =>
        obtain ⟨q1, q2, q3⟩ := q
        have b := pS_b ch (p + 1) 1
        have q4 : ¬ nmV ch (p + 1) = -4 := (q1 0 (by omega)).1
        have b2 := nmV_b ch (p + 1)
        injection h with h
        injection h with e1 e2
        subst e1 e2
        refine ⟨⟨a1, a2, by show 0 ≤ A.R + 1; omega, by show A.R + 1 ≤ 8; omega, a5, a6, a7, fun j j0 j1 => ?_, a9⟩, by omega, by omega⟩
        rw [aR_ra]
        have j1' : j < A.R + 1 := j1
        by_cases c : j = A.R
        · rw [if_pos c]; omega
        · rw [if_neg c]; exact a8 j j0 (by omega)
      · cases h
    · split at h
      · split at h
        · next q =>
          obtain ⟨q1, q2, q3, q4, q5⟩ := q
          have b := pS_b ch (p + 1) 6
          have nn : ∀ i : Nat, i < 6 → 0 ≤ nmV ch (pS ch (p + 1) i) := fun i hi => by
            have := (q1 i hi).1
            have := nmV_b ch (pS ch (p + 1) i)
            omega
          injection h with h
          injection h with e1 e2
          subst e1 e2
          refine ⟨⟨a1, a2, a3, a4, by show 0 ≤ A.N + 1; omega, by show A.N + 1 ≤ 4; omega, a7, a8, fun k k0 k1 => ?_⟩, by omega, by omega⟩
          have k1' : k < A.N + 1 := k1
          have n0 := nn 0 (by omega)
          simp only [aC_cm, aC_L]
          by_cases c : k = A.N
          · simp only [if_pos c]
            refine ⟨q4, ⟨n0, q3⟩, fun w w2 w6 => ?_, rfl, rfl⟩
            have e : coV (fun i => nmV ch (pS ch (p + 1) i)) w = nmV ch (pS ch (p + 1) w.toNat) := by unfold coV; rw [if_neg (by omega), if_neg (by omega), if_pos w6]
            rw [e]
            have u := q5 (w.toNat - 2) (by omega)
            rw [show 2 + (w.toNat - 2) = w.toNat by omega] at u
            exact ⟨nn _ (by omega), u⟩
          · simp only [if_neg c]
            exact a9 k k0 (by omega)
        · cases h
      · cases h
def FrR (s u : St) : Prop := (∀ a z, (a < 54 ∨ 69 ≤ a) → vA u a z = vA s a z) ∧ (∀ a k, (a < 54 ∨ 69 ≤ a) → vF u a k = vF s a k)
theorem FrR.trans {s t u : St} (h : FrR s t) (g : FrR t u) : FrR s u := ⟨fun a z e => (g.1 a z e).trans (h.1 a z e), fun a k e => (g.2 a k e).trans (h.2 a k e)⟩
theorem FrR.rfl' {s : St} : FrR s s := ⟨fun _ _ _ => rfl, fun _ _ _ => rfl⟩
theorem NumFr.fr {s t : St} (h : NumFr s t) : FrR s t := ⟨fun a z e => h.1 a z (by omega), fun a k e => h.2 a k (by omega) (by omega)⟩
theorem FrR.txt {u t : St} {ch : Int → Int} (h : FrR u t) (g : RText u ch) : RText t ch := g.cong (h.2 _ _ (by decide)) (fun z => h.1 _ z (by decide))
/-- the reader's own tale and camp -/
def RC (u : St) (A : AS) : Prop := (vF u 57 4 = A.L ∧ vF u 58 1 = 4 * A.L ∧ ∀ j, 0 ≤ j → j < 4 * A.L → vA u 59 j = A.nx j) ∧ (vF u 60 1 = A.R ∧ ∀ j, 0 ≤ j → j < A.R → vA u 61 j = A.ra j) ∧ vF u 67 1 = 8 * A.N ∧ (∀ k w, 0 ≤ k → k < A.N → 0 ≤ w → w < 8 → vA u 68 (k * 8 + w) = A.cm k w) ∧ vF u 66 2 = 0
theorem RC.cong {u t : St} {A : AS} (h : RC u A) (eA : ∀ a z, (a = 59 ∨ a = 61 ∨ a = 68) → vA t a z = vA u a z) (eF : ∀ a k, ((a = 57 ∧ k = 4) ∨ a = 58 ∨ a = 60 ∨ a = 66 ∨ a = 67) → vF t a k = vF u a k) : RC t A := by
  obtain ⟨⟨h1, h2, h3⟩, ⟨h4, h5⟩, h6, h7, h8⟩ := h
  exact ⟨⟨(eF _ _ (by decide)).trans h1, (eF _ _ (by decide)).trans h2, fun j a b => (eA _ _ (by decide)).trans (h3 j a b)⟩, ⟨(eF _ _ (by decide)).trans h4, fun j a b => (eA _ _ (by decide)).trans (h5 j a b)⟩, (eF _ _ (by decide)).trans h6, fun k w a b c d => (eA _ _ (by decide)).trans (h7 k w a b c d), (eF _ _ (by decide)).trans h8⟩
theorem RC.num {u t : St} {A : AS} (h : RC u A) (g : NumFr u t) : RC t A := h.cong (fun a z e => g.1 a z (by omega)) (fun a k e => g.2 a k (by omega) (by omega))
theorem tale57 : isTale 57 := ⟨rfl, ⟨rfl, rfl, by decide⟩, ⟨rfl, rfl, by decide⟩, ⟨rfl, rfl, by decide⟩, ⟨rfl, rfl, by decide⟩⟩
theorem camp66 : isCamp 66 57 := ⟨rfl, rfl, rfl, by decide⟩
theorem row58 : isRow 58 36 := ⟨rfl, rfl, by decide⟩
theorem row60 : isRow 60 8 := ⟨rfl, rfl, by decide⟩
theorem row67 : isRow 67 32 := ⟨rfl, rfl, by decide⟩
theorem RC.tale {u : St} {A : AS} (h : RC u A) (ok : AOk A) : TaleOk u 57 := by
  obtain ⟨⟨h1, h2, h3⟩, ⟨h4, h5⟩, h6⟩ := h
  obtain ⟨a1, a2, a3, a4, a5, a6, a7, a8, a9⟩ := ok
  refine ⟨by rw [h1]; exact a1, by rw [h1]; exact a2, by rw [h1]; exact h2, by show 0 ≤ vF u 60 1; omega, by show vF u 60 1 ≤ 8; omega, fun j j0 j1 => ?_, fun j j0 j1 => ?_⟩
  · rw [h1] at j1
    show 0 ≤ vA u 59 j ∧ vA u 59 j ≤ 9
    rw [h3 j j0 j1]; exact a7 j j0 j1
  · have j1' : j < vF u 60 1 := j1
    rw [h4] at j1'
    show 0 ≤ vA u 61 j ∧ vA u 61 j ≤ 3
    rw [h5 j j0 j1']; exact a8 j j0 j1'
set_option maxHeartbeats 1000000 in
set_option maxRecDepth 4000 in
theorem c_addLine {X : vX} {s : St} {A : AS} (h : RC s A) (ok : AOk A) {v : Int → Int} (e5 : vF s 55 1 = 4) (hv : ∀ j : Int, 0 ≤ j → j < 4 → vA s 56 j = v j) : OkI X 1 73 [.ref 57, .ref 55] s (fun z t => z = (if A.L < 9 then 1 else 0) ∧ FrR s t ∧ vF t 54 4 = vF s 54 4 ∧ (A.L < 9 → RC t (A.aL v))) := by
  refine Ok.of (r := vm_m73) (ls := [some (.ref 57), some (.ref 55), none]) rfl (Nat.le_of_ble_eq_true rfl) rfl (fun d hd => ?_)
  obtain ⟨⟨g1, g2, g3⟩, g4⟩ := id h
  obtain ⟨a1, a2, a3⟩ := id ok
  refine Gs_aload_n p73_0 rfl rfl ?_
  refine Gs_getR p73_1 (by first | rfl | assumption | exact (show isTale _ from by assumption).1 | exact (show isCamp _ _ from by assumption).1 | exact (show isRow _ _ from by assumption).1) (by rfl) ?_
  refine Gs_callV0I p73_4 (by rfl) (by rfl) (by rfl) (Nat.le_of_ble_eq_true rfl) (by decide) (c_isFull row58 (show rg (vF s 58 1) from ⟨by omega, by omega⟩)) (by omega) ?_
  refine Gs_ifb_eq (tgt := 12) p73_7 (by rfl) (fun h7 => ?_) (fun h7 => ?_)
  · refine Gs_iconst p73_12 ?_
    refine Gs_ist2 p73_13 (by first | rfl | assumption) ?_
    refine dn (n := (4 : Int)) (P := fun i => ∀ y : St, (∀ a z, a ≠ 59 → vA y a z = vA s a z) → (∀ a k, ¬ (a = 58 ∧ k = 1) → vF y a k = vF s a k) → vF y 58 1 = 4 * A.L + i → (∀ j : Int, 0 ≤ j → j < 4 * A.L + i → vA y 59 j = (if 4 * A.L ≤ j then v (j - 4 * A.L) else A.nx j)) → Gs X d 73 14 [some (.ref 57), some (.ref 55), some (.int (iI i))] [] (y) (fun vv yy => ∃ zz : Int, vv = some (.int (iI zz)) ∧ (fun z t => z = (if A.L < 9 then 1 else 0) ∧ FrR s t ∧ vF t 54 4 = vF s 54 4 ∧ (A.L < 9 → RC t (A.aL v))) zz yy)) (by omega) (fun i hi hin ih => ?_) ?_ _ (fun _ _ _ => rfl) (fun _ _ _ => rfl) (by omega) (fun j j0 j1 => by rw [if_neg (by omega)]; exact g3 j j0 (by omega))
    · show ∀ y : St, (∀ a z, a ≠ 59 → vA y a z = vA s a z) → (∀ a k, ¬ (a = 58 ∧ k = 1) → vF y a k = vF s a k) → vF y 58 1 = 4 * A.L + i → (∀ j : Int, 0 ≤ j → j < 4 * A.L + i → vA y 59 j = (if 4 * A.L ≤ j then v (j - 4 * A.L) else A.nx j)) → Gs X d 73 14 [some (.ref 57), some (.ref 55), some (.int (iI i))] [] (y) _
      intro y oA oF e8 hj
      have e5y : vF y 55 1 = 4 := (oF _ _ (by decide)).trans e5
      refine Gs_iload_n p73_14 rfl rfl ?_
      refine Gs_iconst p73_15 ?_
      refine Gs_icmp_ge (tgt := 37) p73_16 (by rfl) (by first | assumption | exact ⟨by omega, by omega⟩ | (split <;> exact ⟨by omega, by omega⟩)) (by first | assumption | exact ⟨by omega, by omega⟩ | (split <;> exact ⟨by omega, by omega⟩)) (fun hc16 => absurd ‹_› (by first | omega | assumption)) (fun hc16 => ?_)
      refine Gs_aload_n p73_19 rfl rfl ?_
      refine Gs_getR p73_20 (by first | rfl | assumption | exact (show isTale _ from by assumption).1 | exact (show isCamp _ _ from by assumption).1 | exact (show isRow _ _ from by assumption).1) (by rfl) ?_
      refine Gs_aload_n p73_23 rfl rfl ?_
      refine Gs_iload_n p73_24 rfl rfl ?_
      refine Gs_callV1I p73_25 (by rfl) (by rfl) (by rfl) (Nat.le_of_ble_eq_true rfl) (by decide) (c_aget (a := 56) row55 rfl ⟨by omega, by omega⟩ (by omega) (by omega)) (by omega) ?_
      rw [if_pos ⟨hi, by omega⟩, oA _ _ (by decide), hv i hi hin]
      refine Gs_callV1W p73_28 (by rfl) (by rfl) (by rfl) (Nat.le_of_ble_eq_true rfl) (by decide) (c_aadd (a := 59) row58 rfl (by omega) (show vF y 58 1 < ((36 : Nat) : Int) by omega)) (by omega) ?_
      refine Gs_iinc2 (b52 := none) p73_31 (by first | rfl | assumption) ?_
      refine Gs_goto (tgt := 14) p73_34 (by rfl) ?_
      refine ih _ (fun a z x => by rw [vA_sF, vA_sA, if_neg (fun q => x q.1)]; exact oA a z x) (fun a k x => by rw [vF_sF, if_neg x, vF_sA]; exact oF a k x) (by rw [vF_sF, if_pos ⟨rfl, rfl⟩]; omega) (fun j j0 j1 => ?_)
      rw [vA_sF, vA_sA]
      by_cases c : j = vF y 58 1
      · rw [if_pos ⟨rfl, c⟩, if_pos (by omega), show j - 4 * A.L = i by omega]
      · rw [if_neg (fun q => c q.2)]; exact hj j j0 (by omega)
    · show ∀ y : St, (∀ a z, a ≠ 59 → vA y a z = vA s a z) → (∀ a k, ¬ (a = 58 ∧ k = 1) → vF y a k = vF s a k) → vF y 58 1 = 4 * A.L + ((4 : Int)) → (∀ j : Int, 0 ≤ j → j < 4 * A.L + ((4 : Int)) → vA y 59 j = (if 4 * A.L ≤ j then v (j - 4 * A.L) else A.nx j)) → Gs X d 73 14 [some (.ref 57), some (.ref 55), some (.int (iI ((4 : Int))))] [] (y) _
      intro y oA oF e8 hj
      refine Gs_iload_n p73_14 rfl rfl ?_
      refine Gs_iconst p73_15 ?_
      refine Gs_icmp_ge (tgt := 37) p73_16 (by rfl) (by first | assumption | exact ⟨by omega, by omega⟩ | (split <;> exact ⟨by omega, by omega⟩)) (by first | assumption | exact ⟨by omega, by omega⟩ | (split <;> exact ⟨by omega, by omega⟩)) (fun hc16 => ?_) (fun hc16 => absurd ‹_› (by first | omega | assumption))
      refine Gs_aload_n p73_37 rfl rfl ?_
      refine Gs_dup p73_38 rfl ?_
      refine Gs_getI p73_39 (by first | rfl | assumption | exact (show isTale _ from by assumption).1 | exact (show isCamp _ _ from by assumption).1 | exact (show isRow _ _ from by assumption).1) (by rfl) ?_
      refine Gs_iconst p73_42 ?_
      refine Gs_iadd p73_43 ?_
      refine Gs_putI p73_44 (by first | rfl | assumption | exact (show isTale _ from by assumption).1 | exact (show isCamp _ _ from by assumption).1 | exact (show isRow _ _ from by assumption).1) (by rfl) (by rfl) (by rfl) ?_
      refine Gs_iconst p73_47 ?_
      refine Gs_zret p73_48 rfl (by first | exact Or.inl rfl | exact Or.inr rfl | (split <;> first | exact Or.inl rfl | exact Or.inr rfl)) ⟨_, rfl, ?_⟩
      refine ⟨(if_pos (by omega)).symm, ⟨fun a z e => oA a z (by omega), fun a k e => (vF_sF _ _ _ _ _ _).trans ((if_neg (by omega)).trans (oF a k (by omega)))⟩, (vF_sF _ _ _ _ _ _).trans ((if_neg (by omega)).trans (oF _ _ (by decide))), fun _ => ?_⟩
      obtain ⟨k4, k6, k7, k8⟩ := g4
      refine ⟨⟨?_, ?_, fun j j0 j1 => hj j j0 (by have : j < 4 * (A.L + 1) := j1; omega)⟩, ⟨?_, fun j j0 j1 => ?_⟩, ?_, fun k w k0 k1 w0 w1 => ?_, ?_⟩
      · rw [vF_sF, if_pos ⟨rfl, rfl⟩, oF _ _ (by decide), g1]; rfl
      · rw [vF_sF, if_neg (by decide), e8]; show 4 * A.L + 4 = 4 * (A.L + 1); omega
      · rw [vF_sF, if_neg (by decide), oF _ _ (by decide)]; exact k4.1
      · rw [vA_sF, oA _ _ (by decide)]; exact k4.2 j j0 j1
      · rw [vF_sF, if_neg (by decide), oF _ _ (by decide)]; exact k6
      · rw [vA_sF, oA _ _ (by decide)]; exact k7 k w k0 k1 w0 w1
      · rw [vF_sF, if_neg (by decide), oF _ _ (by decide)]; exact k8
  · refine Gs_iconst p73_10 ?_
    refine Gs_zret p73_11 rfl (by first | exact Or.inl rfl | exact Or.inr rfl | (split <;> first | exact Or.inl rfl | exact Or.inr rfl)) ⟨_, rfl, ?_⟩
    exact ⟨(if_neg (by omega)).symm, FrR.rfl', rfl, fun q => absurd q (by omega)⟩

set_option maxHeartbeats 1000000 in
set_option maxRecDepth 4000 in
theorem c_addRain {X : vX} {s : St} {A : AS} (h : RC s A) (ok : AOk A) {x : Int} (x0 : 0 ≤ x) (x9 : x ≤ 99) : OkI X 1 74 [.ref 57, .int (iI x)] s (fun z t => z = (if A.R < 8 ∧ x ≤ 3 then 1 else 0) ∧ FrR s t ∧ vF t 54 4 = vF s 54 4 ∧ (A.R < 8 ∧ x ≤ 3 → RC t (A.aR x))) := by
  refine Ok.of (r := vm_m74) (ls := [some (.ref 57), some (.int (iI x))]) rfl (Nat.le_of_ble_eq_true rfl) rfl (fun d hd => ?_)
  obtain ⟨⟨g1, g2, g3⟩, ⟨g4, g5⟩, g6, g7, g8⟩ := id h
  obtain ⟨a1, a2, a3, a4, a5⟩ := id ok
  refine Gs_aload_n p74_0 rfl rfl ?_
  refine Gs_getR p74_1 (by first | rfl | assumption | exact (show isTale _ from by assumption).1 | exact (show isCamp _ _ from by assumption).1 | exact (show isRow _ _ from by assumption).1) (by rfl) ?_
  refine Gs_callV0I p74_4 (by rfl) (by rfl) (by rfl) (Nat.le_of_ble_eq_true rfl) (by decide) (c_isFull row60 (show rg (vF s 60 1) from ⟨by omega, by omega⟩)) (by omega) ?_
  refine Gs_ifb_ne (tgt := 19) p74_7 (by rfl) (fun h7 => ?_) (fun h7 => ?_)
  · refine Gs_iconst p74_19 ?_
    refine Gs_zret p74_20 rfl (by first | exact Or.inl rfl | exact Or.inr rfl | (split <;> first | exact Or.inl rfl | exact Or.inr rfl)) ⟨_, rfl, ?_⟩
    exact ⟨(if_neg (by omega)).symm, FrR.rfl', rfl, fun q => absurd q (by omega)⟩
  · refine Gs_iload_n p74_10 rfl rfl ?_
    refine Gs_iconst p74_11 ?_
    refine Gs_iconst p74_12 ?_
    refine Gs_callS3I p74_13 (by rfl) (Nat.le_of_ble_eq_true rfl) (by decide) (c_within ⟨by omega, by omega⟩ ⟨by omega, by omega⟩ ⟨by omega, by omega⟩) (by omega) ?_
    refine Gs_ifb_ne (tgt := 21) p74_16 (by rfl) (fun h16 => ?_) (fun h16 => ?_)
    · refine Gs_aload_n p74_21 rfl rfl ?_
      refine Gs_getR p74_22 (by first | rfl | assumption | exact (show isTale _ from by assumption).1 | exact (show isCamp _ _ from by assumption).1 | exact (show isRow _ _ from by assumption).1) (by rfl) ?_
      refine Gs_iload_n p74_25 rfl rfl ?_
      refine Gs_callV1W p74_26 (by rfl) (by rfl) (by rfl) (Nat.le_of_ble_eq_true rfl) (by decide) (c_aadd (a := 61) row60 rfl (by omega) (show vF s 60 1 < ((8 : Nat) : Int) by omega)) (by omega) ?_
      refine Gs_iconst p74_29 ?_
      refine Gs_zret p74_30 rfl (by first | exact Or.inl rfl | exact Or.inr rfl | (split <;> first | exact Or.inl rfl | exact Or.inr rfl)) ⟨_, rfl, ?_⟩
      refine ⟨(if_pos (by omega)).symm, ⟨fun a z e => by rw [vA_sF, vA_sA, if_neg (by omega)], fun a k e => by rw [vF_sF, if_neg (by omega), vF_sA]⟩, by rw [vF_sF, if_neg (by decide), vF_sA], fun _ => ⟨⟨?_, ?_, fun j j0 j1 => ?_⟩, ⟨?_, fun j j0 j1 => ?_⟩, ?_, fun k w k0 k1 w0 w1 => ?_, ?_⟩⟩
      · exact g1
      · exact g2
      · exact g3 j j0 j1
      · rw [vF_sF, if_pos ⟨rfl, rfl⟩, g4]; rfl
      · have j1' : j < A.R + 1 := j1
        show (if (61 : Nat) = 61 ∧ j = vF s 60 1 then x else vA s 61 j) = (if j = A.R then x else A.ra j)
        by_cases c : j = A.R
        · rw [if_pos ⟨rfl, by omega⟩, if_pos c]
        · rw [if_neg (by omega), if_neg c]; exact g5 j j0 (by omega)
      · exact g6
      · exact g7 k w k0 k1 w0 w1
      · exact g8
    · refine Gs_iconst p74_19 ?_
      refine Gs_zret p74_20 rfl (by first | exact Or.inl rfl | exact Or.inr rfl | (split <;> first | exact Or.inl rfl | exact Or.inr rfl)) ⟨_, rfl, ?_⟩
      exact ⟨(if_neg (by omega)).symm, FrR.rfl', rfl, fun q => absurd q (by omega)⟩
