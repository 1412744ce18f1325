/-! keeping, the reference's scan -/
def kmap (o : Option Int) (d : Int) : Option Int := match o with
  | some m => some (m + d)
  | none => none
theorem kmap_kmap (o : Option Int) (a b : Int) : kmap (kmap o a) b = kmap o (b + a) := by
  cases o with
  | none => rfl
  | some m => show some (m + a + b) = some (m + (b + a)); congr 1; omega
def kcS (o : Option Int) : Int := match o with
  | some m => m
  | none => 1000000
section KC
variable {R : Int → Int} {n : Nat} {r : Nat → Int} {lg : Int → Int} {hot last h : Int}
theorem kcN_low (h4 : r 0 < 4) (hl : 1 ≤ lg (r 0)) (hf : 1 ≤ fedI hot (r 0)) (hb : 1 ≤ burntI (fedI hot (r 0)) (r 0) (R h)) : kcN R (n + 1) r lg hot last h = kmap (kcN R n (fun i => r (i + 1)) (up1 lg (r 0) (lg (r 0) - 1)) (burntI (fedI hot (r 0)) (r 0) (R h)) (r 0) (h + 1)) 1 := by
  rw [kcN_s, if_pos h4, if_pos ⟨hl, hf, hb⟩]
  rfl
theorem kcN_bad (h4 : r 0 < 4) (hn : ¬ (1 ≤ lg (r 0) ∧ 1 ≤ fedI hot (r 0) ∧ 1 ≤ burntI (fedI hot (r 0)) (r 0) (R h))) : kcN R (n + 1) r lg hot last h = none := by rw [kcN_s, if_pos h4, if_neg hn]
theorem kcN_no (h4 : ¬ r 0 < 4) (hb : 1 ≤ burntI hot last (R h)) : kcN R (n + 1) r lg hot last h = kcN R n (fun i => r (i + 1)) lg (burntI hot last (R h)) last (h + 1) := by rw [kcN_s, if_neg h4, if_pos hb]
theorem kcN_nob (h4 : ¬ r 0 < 4) (hb : ¬ 1 ≤ burntI hot last (R h)) : kcN R (n + 1) r lg hot last h = none := by rw [kcN_s, if_neg h4, if_neg hb]
end KC
/-- how many of the first k are x -/
def cnt4 (r : Nat → Int) : Nat → Int → Int
  | 0, _ => 0
  | k + 1, x => cnt4 r k x + (if r k = x ∧ r k < 4 then 1 else 0)
theorem cnt4_b (r : Nat → Int) (k : Nat) (x : Int) : 0 ≤ cnt4 r k x ∧ cnt4 r k x ≤ k := by
  induction k with
  | zero => show 0 ≤ (0 : Int) ∧ (0 : Int) ≤ 0; omega
  | succ k ih =>
    show 0 ≤ cnt4 r k x + _ ∧ cnt4 r k x + _ ≤ _
    split <;> omega
theorem cnt4_s {r : Nat → Int} {i x : Int} (hi : 0 ≤ i) : cnt4 r (i + 1).toNat x = cnt4 r i.toNat x + (if r i.toNat = x ∧ r i.toNat < 4 then 1 else 0) := by
  rw [show (i + 1).toNat = i.toNat + 1 by omega]
  rfl
set_option maxHeartbeats 1000000 in
set_option maxRecDepth 4000 in
theorem c_giveBack {X : vX} {s : St} {k : Int} {r : Nat → Int} (k0 : 0 ≤ k) (k6 : k ≤ 6) (hr : ∀ i : Nat, (i : Int) < k → vA s 104 i = r i ∧ 0 ≤ r i ∧ r i < 5) : OkI X 0 178 [.ref 95, .int (iI k)] s (fun z t => z = 1000000 ∧ (∀ a z, a ≠ 106 → vA t a z = vA s a z) ∧ (∀ a f, vF t a f = vF s a f) ∧ (∀ x, 0 ≤ x → x < 4 → vA t 106 x = vA s 106 x + cnt4 r k.toNat x)) := by
  refine Ok.of (r := vm_m178) (ls := [some (.ref 95), some (.int (iI k)), none]) rfl (Nat.le_of_ble_eq_true rfl) rfl (fun d hd => ?_)
  refine Gs_iconst p178_0 ?_
  refine Gs_ist2 p178_1 (by first | rfl | assumption) ?_
  refine dn (n := k) (P := fun i => ∀ y, (∀ a z, a ≠ 106 → vA y a z = vA s a z) → (∀ a f, vF y a f = vF s a f) → (∀ x, 0 ≤ x → x < 4 → vA y 106 x = vA s 106 x + cnt4 r i.toNat x) → Gs X d 178 2 [some (.ref 95), some (.int (iI k)), some (.int (iI i))] [] (y) (fun vv yy => ∃ zz : Int, vv = some (.int (iI zz)) ∧ (fun z t => z = 1000000 ∧ (∀ a z, a ≠ 106 → vA t a z = vA s a z) ∧ (∀ a f, vF t a f = vF s a f) ∧ (∀ x, 0 ≤ x → x < 4 → vA t 106 x = vA s 106 x + cnt4 r k.toNat x)) zz yy)) k0 (fun i hi hin ih => ?_) ?_ s (fun _ _ _ => rfl) (fun _ _ => rfl) (fun x _ _ => (Int.add_zero _).symm)
  · show ∀ y, (∀ a z, a ≠ 106 → vA y a z = vA s a z) → (∀ a f, vF y a f = vF s a f) → (∀ x, 0 ≤ x → x < 4 → vA y 106 x = vA s 106 x + cnt4 r i.toNat x) → Gs X d 178 2 [some (.ref 95), some (.int (iI k)), some (.int (iI i))] [] (y) _
    intro y ya yf yl
    have rk := hr i.toNat (by omega)
    rw [show ((i.toNat : Nat) : Int) = i by omega] at rk
    have y4 : vA y 104 i = r i.toNat := (ya 104 i (by decide)).trans rk.1
    refine Gs_iload_n p178_2 rfl rfl ?_
    refine Gs_iload_n p178_3 rfl rfl ?_
    refine Gs_icmp_ge (tgt := 38) p178_4 (by rfl) (by first | assumption | exact ⟨by omega, by omega⟩ | (split <;> exact ⟨by omega, by omega⟩)) (by first | assumption | exact ⟨by omega, by omega⟩ | (split <;> exact ⟨by omega, by omega⟩)) (fun hc4 => absurd ‹_› (by first | omega | assumption)) (fun hc4 => ?_)
    refine Gs_aload_n p178_7 rfl rfl ?_
    refine Gs_getR p178_8 (by first | rfl | assumption | exact (show isTale _ from by assumption).1 | exact (show isCamp _ _ from by assumption).1 | exact (show isRow _ _ from by assumption).1) (by rfl) ?_
    refine Gs_iload_n p178_11 rfl rfl ?_
    refine Gs_iald p178_12 (by first | rfl | assumption | exact (show isTale _ from by assumption).1 | exact (show isCamp _ _ from by assumption).1 | exact (show isRow _ _ from by assumption).1) (by omega) (by omega) (by omega) ?_
    rw [y4]
    refine Gs_iconst p178_13 ?_
    refine Gs_icmp_ge (tgt := 32) p178_14 (by rfl) (by first | assumption | exact ⟨by omega, by omega⟩ | (split <;> exact ⟨by omega, by omega⟩)) (by first | assumption | exact ⟨by omega, by omega⟩ | (split <;> exact ⟨by omega, by omega⟩)) (fun h14 => ?_) (fun h14 => ?_)
    · refine Gs_iinc2 (b52 := none) p178_32 (by first | rfl | assumption) ?_
      refine Gs_goto (tgt := 2) p178_35 (by rfl) ?_
      first
        | (refine ih _ (fun a z h => by rw [vA_sA, if_neg (fun q => h q.1)]; exact ya a z h) yf (fun x x0 x1 => ?_)
           rw [vA_sA, cnt4_s hi]
           by_cases ex : x = r i.toNat
           · rw [if_pos ⟨rfl, ex⟩, if_pos ⟨ex.symm, by omega⟩, ex, yl _ rk.2.1 (by omega)]; omega
           · rw [if_neg (fun q => ex q.2), if_neg (fun q => ex q.1.symm), yl x x0 x1]; omega)
        | (refine ih _ ya yf (fun x x0 x1 => ?_)
           rw [cnt4_s hi, if_neg (by omega), yl x x0 x1]; omega)
    · refine Gs_aload_n p178_17 rfl rfl ?_
      refine Gs_getR p178_18 (by first | rfl | assumption | exact (show isTale _ from by assumption).1 | exact (show isCamp _ _ from by assumption).1 | exact (show isRow _ _ from by assumption).1) (by rfl) ?_
      refine Gs_aload_n p178_21 rfl rfl ?_
      refine Gs_getR p178_22 (by first | rfl | assumption | exact (show isTale _ from by assumption).1 | exact (show isCamp _ _ from by assumption).1 | exact (show isRow _ _ from by assumption).1) (by rfl) ?_
      refine Gs_iload_n p178_25 rfl rfl ?_
      refine Gs_iald p178_26 (by first | rfl | assumption | exact (show isTale _ from by assumption).1 | exact (show isCamp _ _ from by assumption).1 | exact (show isRow _ _ from by assumption).1) (by omega) (by omega) (by omega) ?_
      rw [y4]
      refine Gs_dup2 p178_27 rfl rfl ?_
      refine Gs_iald p178_28 (by first | rfl | assumption | exact (show isTale _ from by assumption).1 | exact (show isCamp _ _ from by assumption).1 | exact (show isRow _ _ from by assumption).1) (by omega) (by omega) (by omega) ?_
      refine Gs_iconst p178_29 ?_
      refine Gs_iadd p178_30 ?_
      refine Gs_iast p178_31 (by first | rfl | assumption | exact (show isTale _ from by assumption).1 | exact (show isCamp _ _ from by assumption).1 | exact (show isRow _ _ from by assumption).1) (by omega) (by omega) (by omega) ?_
      refine Gs_iinc2 (b52 := none) p178_32 (by first | rfl | assumption) ?_
      refine Gs_goto (tgt := 2) p178_35 (by rfl) ?_
      first
        | (refine ih _ (fun a z h => by rw [vA_sA, if_neg (fun q => h q.1)]; exact ya a z h) yf (fun x x0 x1 => ?_)
           rw [vA_sA, cnt4_s hi]
           by_cases ex : x = r i.toNat
           · rw [if_pos ⟨rfl, ex⟩, if_pos ⟨ex.symm, by omega⟩, ex, yl _ rk.2.1 (by omega)]; omega
           · rw [if_neg (fun q => ex q.2), if_neg (fun q => ex q.1.symm), yl x x0 x1]; omega)
        | (refine ih _ ya yf (fun x x0 x1 => ?_)
           rw [cnt4_s hi, if_neg (by omega), yl x x0 x1]; omega)
  · show ∀ y, (∀ a z, a ≠ 106 → vA y a z = vA s a z) → (∀ a f, vF y a f = vF s a f) → (∀ x, 0 ≤ x → x < 4 → vA y 106 x = vA s 106 x + cnt4 r (k).toNat x) → Gs X d 178 2 [some (.ref 95), some (.int (iI k)), some (.int (iI (k)))] [] (y) _
    intro y ya yf yl
    refine Gs_iload_n p178_2 rfl rfl ?_
    refine Gs_iload_n p178_3 rfl rfl ?_
    refine Gs_icmp_ge (tgt := 38) p178_4 (by rfl) (by first | assumption | exact ⟨by omega, by omega⟩ | (split <;> exact ⟨by omega, by omega⟩)) (by first | assumption | exact ⟨by omega, by omega⟩ | (split <;> exact ⟨by omega, by omega⟩)) (fun hc4 => ?_) (fun hc4 => absurd ‹_› (by first | omega | assumption))
    refine Gs_ldc (z := (1000000)) p178_38 (by decide) (by decide) ?_
    refine Gs_iret p178_40 rfl ⟨_, rfl, ?_⟩
    exact ⟨rfl, ya, yf, yl⟩

def KM (y u : St) (lg : Int → Int) (r : Nat → Int) (k : Nat) : Prop := (∀ a z, a ≠ 106 → vA u a z = vA y a z) ∧ (∀ a f, vF u a f = vF y a f) ∧ (∀ x, 0 ≤ x → x < 4 → vA u 106 x = lg x - cnt4 r k x ∧ 0 ≤ lg x - cnt4 r k x)
def KB4 (s : St) (A : Option Int) (lg : Int → Int) (r : Nat → Int) (n z : Int) (t : St) : Prop := z = kcS A ∧ (∀ x, 0 ≤ x → x < 4 → vA t 106 x = lg x) ∧ (∀ j : Nat, (j : Int) < n → vA t 104 j = r j) ∧ (∀ a z, a ≠ 104 → a ≠ 106 → vA t a z = vA s a z) ∧ (∀ a f, vF t a f = vF s a f)
def rNx (s : St) (n : Int) (r : Nat → Int) (lg : Int → Int) (k hot last : Int) : Option Int := kcN (fun x => rnM s (vA s 98 32 + x)) (n.toNat - k.toNat) (fun i => r (k.toNat + i)) (fun x => lg x - cnt4 r k.toNat x) hot last k
set_option maxHeartbeats 4000000 in
theorem l_hour {X : vX} {s y u : St} {c n q k h last many : Int} {r : Nat → Int} {lg : Int → Int} {A : Option Int} {b4 : Int} {b9 : Option Value} {d : Nat} (hd : 1 ≤ d) (hT : MT s) (hh : 0 ≤ vA s 98 32 ∧ vA s 98 32 ≤ 100000) (hy : ∀ a z, a ≠ 104 → a ≠ 106 → vA y a z = vA s a z) (hyf : ∀ a f, vF y a f = vF s a f) (hr : ∀ j : Nat, (j : Int) < n → vA y 104 j = r j ∧ 0 ≤ r j ∧ r j < 5) (n6 : n ≤ 6) (k0 : 0 ≤ k) (k1 : k < n) (o : KM y u lg r (k + 1).toNat) (h0 : 0 ≤ h) (h1 : h ≤ 20) (gl : rg last) (m0 : 0 ≤ many) (m1 : many ≤ k + 1) (eT : 1 ≤ h → 1 ≤ burntI h last (rnM s (vA s 98 32 + k)) → kmap (rNx s n r lg (k + 1) (burntI h last (rnM s (vA s 98 32 + k))) last) many = A) (eF : ¬ (1 ≤ h ∧ 1 ≤ burntI h last (rnM s (vA s 98 32 + k))) → A = none)
    (IH : ∀ (u : St) (hot last many : Int) (b9 : Option Value), KM y u lg r (k + 1).toNat → 1 ≤ hot → hot ≤ 20 → rg last → 0 ≤ many → many ≤ k + 1 → kmap (rNx s n r lg (k + 1) hot last) many = A → Gs X d 177 63 [some (.ref 95), some (.int (iI c)), some (.int (iI n)), some (.int (iI q)), some (.int (iI b4)), some (.int (iI hot)), some (.int (iI last)), some (.int (iI many)), some (.int (iI (k + 1))), b9] [] u (fun vv yy => ∃ zz : Int, vv = some (.int (iI zz)) ∧ KB4 s A lg r n zz yy)) :
    Gs X d 177 128 [some (.ref 95), some (.int (iI c)), some (.int (iI n)), some (.int (iI q)), some (.int (iI b4)), some (.int (iI h)), some (.int (iI last)), some (.int (iI many)), some (.int (iI k)), b9] [] u (fun vv yy => ∃ zz : Int, vv = some (.int (iI zz)) ∧ KB4 s A lg r n zz yy) := by
  have f96 : ∀ z, vA u 96 z = vA s 96 z := fun z => (o.1 96 z (by decide)).trans (hy 96 z (by decide) (by decide))
  have f98 : ∀ z, vA u 98 z = vA s 98 z := fun z => (o.1 98 z (by decide)).trans (hy 98 z (by decide) (by decide))
  have br := rnM_b hT (vA s 98 32 + k)
  have bb := burntI_b (h := h) (last := last) h1 br.1
  refine Gs_iload p177_128 rfl rfl ?_
  refine Gs_if_ne (tgt := 137) p177_130 (by rfl) (by first | assumption | exact ⟨by omega, by omega⟩ | (split <;> exact ⟨by omega, by omega⟩)) (fun h130 => ?_) (fun h130 => ?_)
  · refine Gs_iload p177_137 rfl rfl ?_
    refine Gs_iload p177_139 rfl rfl ?_
    refine Gs_aload_n p177_141 rfl rfl ?_
    refine Gs_aload_n p177_142 rfl rfl ?_
    refine Gs_getR p177_143 (by first | rfl | assumption | exact (show isTale _ from by assumption).1 | exact (show isCamp _ _ from by assumption).1 | exact (show isRow _ _ from by assumption).1) (by rfl) ?_
    refine Gs_bipush p177_146 (by decide) ?_
    refine Gs_iald p177_148 (by first | rfl | assumption | exact (show isTale _ from by assumption).1 | exact (show isCamp _ _ from by assumption).1 | exact (show isRow _ _ from by assumption).1) (by omega) (by omega) (by omega) ?_
    refine Gs_iload p177_149 rfl rfl ?_
    refine Gs_iadd p177_151 ?_
    refine Gs_callV1I p177_152 (by rfl) (by rfl) (by rfl) (Nat.le_of_ble_eq_true rfl) (by decide) (c_mrainAt (hT.cong f96) (by rw [f98]; omega) (by rw [f98]; omega)) (by omega) ?_
    rw [rnM_cong f96, f98]
    refine Gs_callS3I p177_155 (by rfl) (Nat.le_of_ble_eq_true rfl) (by decide) (c_cooler h0 h1 gl br.1 (by omega)) (by omega) ?_
    refine Gs_ist5 p177_158 (by first | rfl | assumption) ?_
    refine Gs_iload p177_160 rfl rfl ?_
    refine Gs_if_ne (tgt := 174) p177_162 (by rfl) (by first | assumption | exact ⟨by omega, by omega⟩ | (split <;> exact ⟨by omega, by omega⟩)) (fun h162 => ?_) (fun h162 => ?_)
    · refine Gs_iinc8 (b58 := none) p177_174 (by first | rfl | assumption) ?_
      refine Gs_goto (tgt := 63) p177_177 (by rfl) ?_
      first
        | (exfalso; omega)
        | exact IH _ _ _ _ _ o (by omega) bb.2 gl m0 m1 (eT (by omega) (by omega))
    · refine Gs_aload_n p177_165 rfl rfl ?_
      refine Gs_iload p177_166 rfl rfl ?_
      refine Gs_iconst p177_168 ?_
      refine Gs_iadd p177_169 ?_
      refine Gs_callV1i p177_170 (by rfl) (by rfl) (by rfl) (Nat.le_of_ble_eq_true rfl) (by decide) (c_giveBack (r := r) (by omega) (by omega) (fun j hj => ⟨(o.1 104 _ (by decide)).trans (hr j (by omega)).1, (hr j (by omega)).2⟩)) (by omega) (fun z170 s170 h170 => ?_)
      refine Gs_iret p177_173 rfl ⟨_, rfl, ?_⟩
      have en := eF (by omega)
      subst en
      exact ⟨h170.1, fun x x0 x1 => by rw [h170.2.2.2 x x0 x1, (o.2.2 x x0 x1).1]; omega, fun j hj => (h170.2.1 104 _ (by decide)).trans ((o.1 104 _ (by decide)).trans (hr j hj).1), fun a z x1 x2 => by rw [h170.2.1 a z x2, o.1 a z x2, hy a z x1 x2], fun a f => by rw [h170.2.2.1, o.2.1, hyf]⟩
  · refine Gs_iconst p177_133 ?_
    refine Gs_goto (tgt := 158) p177_134 (by rfl) ?_
    refine Gs_ist5 p177_158 (by first | rfl | assumption) ?_
    refine Gs_iload p177_160 rfl rfl ?_
    refine Gs_if_ne (tgt := 174) p177_162 (by rfl) (by first | assumption | exact ⟨by omega, by omega⟩ | (split <;> exact ⟨by omega, by omega⟩)) (fun h162 => ?_) (fun h162 => ?_)
    · refine Gs_iinc8 (b58 := none) p177_174 (by first | rfl | assumption) ?_
      refine Gs_goto (tgt := 63) p177_177 (by rfl) ?_
      first
        | (exfalso; omega)
        | exact IH _ _ _ _ _ o (by omega) bb.2 gl m0 m1 (eT (by omega) (by omega))
    · refine Gs_aload_n p177_165 rfl rfl ?_
      refine Gs_iload p177_166 rfl rfl ?_
      refine Gs_iconst p177_168 ?_
      refine Gs_iadd p177_169 ?_
      refine Gs_callV1i p177_170 (by rfl) (by rfl) (by rfl) (Nat.le_of_ble_eq_true rfl) (by decide) (c_giveBack (r := r) (by omega) (by omega) (fun j hj => ⟨(o.1 104 _ (by decide)).trans (hr j (by omega)).1, (hr j (by omega)).2⟩)) (by omega) (fun z170 s170 h170 => ?_)
      refine Gs_iret p177_173 rfl ⟨_, rfl, ?_⟩
      have en := eF (by omega)
      subst en
      exact ⟨h170.1, fun x x0 x1 => by rw [h170.2.2.2 x x0 x1, (o.2.2 x x0 x1).1]; omega, fun j hj => (h170.2.1 104 _ (by decide)).trans ((o.1 104 _ (by decide)).trans (hr j hj).1), fun a z x1 x2 => by rw [h170.2.1 a z x2, o.1 a z x2, hy a z x1 x2], fun a f => by rw [h170.2.2.1, o.2.1, hyf]⟩
set_option maxHeartbeats 8000000 in
theorem l_kturn {X : vX} {s y u : St} {c n q k hot last many : Int} {r : Nat → Int} {lg : Int → Int} {A : Option Int} {b4 : Int} {b9 : Option Value} {d : Nat} (hd : 1 ≤ d) (hT : MT s) (hh : 0 ≤ vA s 98 32 ∧ vA s 98 32 ≤ 100000) (hlgb : ∀ x, 0 ≤ x → x < 4 → 0 ≤ lg x ∧ lg x ≤ 200) (hy : ∀ a z, a ≠ 104 → a ≠ 106 → vA y a z = vA s a z) (hyf : ∀ a f, vF y a f = vF s a f) (hr : ∀ j : Nat, (j : Int) < n → vA y 104 j = r j ∧ 0 ≤ r j ∧ r j < 5) (n6 : n ≤ 6) (k0 : 0 ≤ k) (k1 : k < n) (o : KM y u lg r k.toNat) (g1 : 1 ≤ hot) (g2 : hot ≤ 20) (gl : rg last) (m0 : 0 ≤ many) (mk : many ≤ k) (e : kmap (rNx s n r lg k hot last) many = A)
    (IH : ∀ (u : St) (hot last many : Int) (b9 : Option Value), KM y u lg r (k + 1).toNat → 1 ≤ hot → hot ≤ 20 → rg last → 0 ≤ many → many ≤ k + 1 → kmap (rNx s n r lg (k + 1) hot last) many = A → Gs X d 177 63 [some (.ref 95), some (.int (iI c)), some (.int (iI n)), some (.int (iI q)), some (.int (iI b4)), some (.int (iI hot)), some (.int (iI last)), some (.int (iI many)), some (.int (iI (k + 1))), b9] [] u (fun vv yy => ∃ zz : Int, vv = some (.int (iI zz)) ∧ KB4 s A lg r n zz yy)) :
    Gs X d 177 63 [some (.ref 95), some (.int (iI c)), some (.int (iI n)), some (.int (iI q)), some (.int (iI b4)), some (.int (iI hot)), some (.int (iI last)), some (.int (iI many)), some (.int (iI k)), b9] [] u (fun vv yy => ∃ zz : Int, vv = some (.int (iI zz)) ∧ KB4 s A lg r n zz yy) := by
  have rk := hr k.toNat (by omega)
  rw [show ((k.toNat : Nat) : Int) = k by omega] at rk
  have y4 : vA u 104 k = r k.toNat := (o.1 104 k (by decide)).trans rk.1
  have rk := rk.2
  have hf := fedI_b hot (r k.toNat)
  have cb := cnt4_b r k.toNat (r k.toNat)
  have shk : ∀ (lg1 lg2 : Int → Int) (hot last h : Int), (∀ x, 0 ≤ x → x < 4 → lg1 x = lg2 x) → kcN (fun x => rnM s (vA s 98 32 + x)) (n.toNat - (k + 1).toNat) (fun i => r (k.toNat + (i + 1))) lg1 hot last h = kcN (fun x => rnM s (vA s 98 32 + x)) (n.toNat - (k + 1).toNat) (fun i => r ((k + 1).toNat + i)) lg2 hot last h := fun lg1 lg2 hot last h hl => kcN_cong _ _ _ _ _ _ _ _ (fun i hi => ⟨by show r (k.toNat + (i + 1)) = r ((k + 1).toNat + i); congr 1; omega, (hr (k.toNat + (i + 1)) (by omega)).2.1⟩) hl
  have eN : n.toNat - k.toNat = (n.toNat - (k + 1).toNat) + 1 := by omega
  have QA : ¬ r k.toNat < 4 → 1 ≤ burntI hot last (rnM s (vA s 98 32 + k)) → rNx s n r lg k hot last = rNx s n r lg (k + 1) (burntI hot last (rnM s (vA s 98 32 + k))) last := fun w4 hb => by
    unfold rNx
    rw [eN]
    exact (kcN_no (R := fun x => rnM s (vA s 98 32 + x)) (r := fun i => r (k.toNat + i)) (h := k) w4 hb).trans (shk _ (fun x => lg x - cnt4 r (k + 1).toNat x) _ _ _ (fun x _ _ => by
      show lg x - cnt4 r k.toNat x = lg x - cnt4 r (k + 1).toNat x
      rw [cnt4_s k0, if_neg (fun q => w4 q.2)]; omega))
  have QA2 : ¬ r k.toNat < 4 → ¬ 1 ≤ burntI hot last (rnM s (vA s 98 32 + k)) → rNx s n r lg k hot last = none := fun w4 hb => by
    unfold rNx
    rw [eN]
    exact kcN_nob (R := fun x => rnM s (vA s 98 32 + x)) (r := fun i => r (k.toNat + i)) (h := k) w4 hb
  have QB : r k.toNat < 4 → 1 ≤ lg (r k.toNat) - cnt4 r k.toNat (r k.toNat) → 1 ≤ fedI hot (r k.toNat) → 1 ≤ burntI (fedI hot (r k.toNat)) (r k.toNat) (rnM s (vA s 98 32 + k)) → rNx s n r lg k hot last = kmap (rNx s n r lg (k + 1) (burntI (fedI hot (r k.toNat)) (r k.toNat) (rnM s (vA s 98 32 + k))) (r k.toNat)) 1 := fun w4 hl hf hb => by
    unfold rNx
    rw [eN]
    exact (kcN_low (R := fun x => rnM s (vA s 98 32 + x)) (r := fun i => r (k.toNat + i)) (lg := fun x => lg x - cnt4 r k.toNat x) (h := k) w4 hl hf hb).trans (congrArg (fun o => kmap o 1) (shk _ (fun x => lg x - cnt4 r (k + 1).toNat x) _ _ _ (fun x x0 x1 => by
      show up1 (fun x => lg x - cnt4 r k.toNat x) (r k.toNat) (lg (r k.toNat) - cnt4 r k.toNat (r k.toNat) - 1) x = lg x - cnt4 r (k + 1).toNat x
      rw [cnt4_s k0, up1_at]
      by_cases ex : x = r k.toNat
      · rw [if_pos ex, if_pos ⟨ex.symm, w4⟩, ex]; omega
      · rw [if_neg ex, if_neg (fun q => ex q.1.symm)]; omega)))
  have QB2 : r k.toNat < 4 → ¬ (1 ≤ lg (r k.toNat) - cnt4 r k.toNat (r k.toNat) ∧ 1 ≤ fedI hot (r k.toNat) ∧ 1 ≤ burntI (fedI hot (r k.toNat)) (r k.toNat) (rnM s (vA s 98 32 + k))) → rNx s n r lg k hot last = none := fun w4 hn => by
    unfold rNx
    rw [eN]
    exact kcN_bad (R := fun x => rnM s (vA s 98 32 + x)) (r := fun i => r (k.toNat + i)) (lg := fun x => lg x - cnt4 r k.toNat x) (h := k) w4 hn
  generalize hw : r k.toNat = w at rk y4 hf cb QA QA2 QB QB2
  have ulw := fun h4 => o.2.2 w rk.1 h4
  have lgw := fun h4 => hlgb w rk.1 h4
  have ub : w < 4 → 0 ≤ vA u 106 w ∧ vA u 106 w ≤ 200 := fun h4 => by have := ulw h4; have := lgw h4; omega
  refine Gs_iload p177_63 rfl rfl ?_
  refine Gs_iload_n p177_65 rfl rfl ?_
  refine Gs_icmp_ge (tgt := 180) p177_66 (by rfl) (by first | assumption | exact ⟨by omega, by omega⟩ | (split <;> exact ⟨by omega, by omega⟩)) (by first | assumption | exact ⟨by omega, by omega⟩ | (split <;> exact ⟨by omega, by omega⟩)) (fun h66 => absurd ‹_› (by first | omega | assumption)) (fun h66 => ?_)
  refine Gs_aload_n p177_69 rfl rfl ?_
  refine Gs_getR p177_70 (by first | rfl | assumption | exact (show isTale _ from by assumption).1 | exact (show isCamp _ _ from by assumption).1 | exact (show isRow _ _ from by assumption).1) (by rfl) ?_
  refine Gs_iload p177_73 rfl rfl ?_
  refine Gs_iald p177_75 (by first | rfl | assumption | exact (show isTale _ from by assumption).1 | exact (show isCamp _ _ from by assumption).1 | exact (show isRow _ _ from by assumption).1) (by omega) (by omega) (by omega) ?_
  rw [y4]
  refine Gs_ist9 p177_76 (by first | rfl | assumption) ?_
  refine Gs_iload p177_78 rfl rfl ?_
  refine Gs_iconst p177_80 ?_
  refine Gs_icmp_ge (tgt := 128) p177_81 (by rfl) (by first | assumption | exact ⟨by omega, by omega⟩ | (split <;> exact ⟨by omega, by omega⟩)) (by first | assumption | exact ⟨by omega, by omega⟩ | (split <;> exact ⟨by omega, by omega⟩)) (fun h81 => ?_) (fun h81 => ?_)
  · by_cases w4 : w < 4
    · first
        | (exfalso; omega)
        | (have cs : ∀ x, cnt4 r (k + 1).toNat x = cnt4 r k.toNat x + (if w = x ∧ w < 4 then 1 else 0) := fun x => by rw [cnt4_s k0, hw]
           have ul := (ulw w4).1
           have un := (ulw w4).2
           refine l_hour hd hT hh hy hyf hr n6 k0 k1 ⟨fun a z x1 => by rw [vA_sA, if_neg (fun q => x1 q.1)]; exact o.1 a z x1, o.2.1, fun x x0 x1 => ?_⟩ hf.1 hf.2 ⟨by omega, by omega⟩ (by omega) (by omega) (fun hf1 hb => ?_) (fun hb => ?_) IH
           · rw [vA_sA, cs]
             by_cases ex : x = w
             · rw [if_pos ⟨rfl, ex⟩, if_pos ⟨ex.symm, w4⟩, ex, ul]; omega
             · rw [if_neg (fun q => ex q.2), if_neg (fun q => ex q.1.symm), (o.2.2 x x0 x1).1]; have := (o.2.2 x x0 x1).2; omega
           · rw [QB w4 (by omega) hf1 hb, kmap_kmap] at e; exact e
           · rw [QB2 w4 (fun q => hb q.2)] at e; exact e.symm)
    · first
        | (exfalso; omega)
        | (have cs : ∀ x, cnt4 r (k + 1).toNat x = cnt4 r k.toNat x := fun x => by rw [cnt4_s k0, hw, if_neg (fun q => w4 q.2)]; omega
           refine l_hour hd hT hh hy hyf hr n6 k0 k1 ⟨o.1, o.2.1, fun x x0 x1 => by rw [cs]; exact o.2.2 x x0 x1⟩ (by omega) g2 gl m0 (by omega) (fun _ hb => ?_) (fun hb => ?_) IH
           · rw [← QA w4 hb]; exact e
           · rw [QA2 w4 (fun q => hb ⟨by omega, q⟩)] at e; exact e.symm)
  · refine Gs_aload_n p177_84 rfl rfl ?_
    refine Gs_getR p177_85 (by first | rfl | assumption | exact (show isTale _ from by assumption).1 | exact (show isCamp _ _ from by assumption).1 | exact (show isRow _ _ from by assumption).1) (by rfl) ?_
    refine Gs_iload p177_88 rfl rfl ?_
    refine Gs_iald p177_90 (by first | rfl | assumption | exact (show isTale _ from by assumption).1 | exact (show isCamp _ _ from by assumption).1 | exact (show isRow _ _ from by assumption).1) (by omega) (by omega) (by omega) ?_
    rw [(ulw (by omega)).1]
    refine Gs_if_ne (tgt := 101) p177_91 (by rfl) (by first | assumption | exact ⟨by omega, by omega⟩ | (split <;> exact ⟨by omega, by omega⟩)) (fun h91 => ?_) (fun h91 => ?_)
    · refine Gs_aload_n p177_101 rfl rfl ?_
      refine Gs_getR p177_102 (by first | rfl | assumption | exact (show isTale _ from by assumption).1 | exact (show isCamp _ _ from by assumption).1 | exact (show isRow _ _ from by assumption).1) (by rfl) ?_
      refine Gs_iload p177_105 rfl rfl ?_
      refine Gs_dup2 p177_107 rfl rfl ?_
      refine Gs_iald p177_108 (by first | rfl | assumption | exact (show isTale _ from by assumption).1 | exact (show isCamp _ _ from by assumption).1 | exact (show isRow _ _ from by assumption).1) (by omega) (by omega) (by omega) ?_
      refine Gs_iconst p177_109 ?_
      refine Gs_isub p177_110 ?_
      refine Gs_iast p177_111 (by first | rfl | assumption | exact (show isTale _ from by assumption).1 | exact (show isCamp _ _ from by assumption).1 | exact (show isRow _ _ from by assumption).1) (by omega) (by omega) (by omega) ?_
      refine Gs_iinc7 (b57 := none) p177_112 (by first | rfl | assumption) ?_
      refine Gs_iload p177_115 rfl rfl ?_
      refine Gs_iload p177_117 rfl rfl ?_
      refine Gs_callS2I p177_119 (by rfl) (Nat.le_of_ble_eq_true rfl) (by decide) (c_hotter (by omega) g2 rk.1 (by omega)) (by omega) ?_
      refine Gs_ist5 p177_122 (by first | rfl | assumption) ?_
      refine Gs_iload p177_124 rfl rfl ?_
      refine Gs_ist6 p177_126 (by first | rfl | assumption) ?_
      by_cases w4 : w < 4
      · first
          | (exfalso; omega)
          | (have cs : ∀ x, cnt4 r (k + 1).toNat x = cnt4 r k.toNat x + (if w = x ∧ w < 4 then 1 else 0) := fun x => by rw [cnt4_s k0, hw]
             have ul := (ulw w4).1
             have un := (ulw w4).2
             refine l_hour hd hT hh hy hyf hr n6 k0 k1 ⟨fun a z x1 => by rw [vA_sA, if_neg (fun q => x1 q.1)]; exact o.1 a z x1, o.2.1, fun x x0 x1 => ?_⟩ hf.1 hf.2 ⟨by omega, by omega⟩ (by omega) (by omega) (fun hf1 hb => ?_) (fun hb => ?_) IH
             · rw [vA_sA, cs]
               by_cases ex : x = w
               · rw [if_pos ⟨rfl, ex⟩, if_pos ⟨ex.symm, w4⟩, ex, ul]; omega
               · rw [if_neg (fun q => ex q.2), if_neg (fun q => ex q.1.symm), (o.2.2 x x0 x1).1]; have := (o.2.2 x x0 x1).2; omega
             · rw [QB w4 (by omega) hf1 hb, kmap_kmap] at e; exact e
             · rw [QB2 w4 (fun q => hb q.2)] at e; exact e.symm)
      · first
          | (exfalso; omega)
          | (have cs : ∀ x, cnt4 r (k + 1).toNat x = cnt4 r k.toNat x := fun x => by rw [cnt4_s k0, hw, if_neg (fun q => w4 q.2)]; omega
             refine l_hour hd hT hh hy hyf hr n6 k0 k1 ⟨o.1, o.2.1, fun x x0 x1 => by rw [cs]; exact o.2.2 x x0 x1⟩ (by omega) g2 gl m0 (by omega) (fun _ hb => ?_) (fun hb => ?_) IH
             · rw [← QA w4 hb]; exact e
             · rw [QA2 w4 (fun q => hb ⟨by omega, q⟩)] at e; exact e.symm)
    · refine Gs_aload_n p177_94 rfl rfl ?_
      refine Gs_iload p177_95 rfl rfl ?_
      refine Gs_callV1i p177_97 (by rfl) (by rfl) (by rfl) (Nat.le_of_ble_eq_true rfl) (by decide) (c_giveBack (r := r) k0 (by omega) (fun j hj => ⟨(o.1 104 _ (by decide)).trans (hr j (by omega)).1, (hr j (by omega)).2⟩)) (by omega) (fun z97 s97 h97 => ?_)
      refine Gs_iret p177_100 rfl ⟨_, rfl, ?_⟩
      rw [QB2 (by omega) (fun q => by have := q.1; have := ulw (by omega); omega)] at e
      have e : none = A := e
      subst e
      exact ⟨h97.1, fun x x0 x1 => by rw [h97.2.2.2 x x0 x1, (o.2.2 x x0 x1).1]; omega, fun j hj => (h97.2.1 104 _ (by decide)).trans ((o.1 104 _ (by decide)).trans (hr j hj).1), fun a z x1 x2 => by rw [h97.2.1 a z x2, o.1 a z x2, hy a z x1 x2], fun a f => by rw [h97.2.2.1, o.2.1, hyf]⟩