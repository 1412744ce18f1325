/-! keeping: one code, all codes -/
set_option maxHeartbeats 4000000 in
set_option maxRecDepth 4000 in
theorem c_keptBy {X : vX} {s : St} {c n q : Int} {lg : Int → Int} (hT : MT s) (hm : MC s 98 (vA s 96 2)) (c0 : 0 ≤ c) (c1 : c < vA s 96 2) (n1 : 1 ≤ n) (n6 : n ≤ 6) (h1 : 1 ≤ vA s 98 (0 + c)) (hlg : ∀ x, 0 ≤ x → x < 4 → vA s 106 x = lg x) (hlgb : ∀ x, 0 ≤ x → x < 4 → 0 ≤ lg x ∧ lg x ≤ 200) (q0 : 0 ≤ q) (q1 : q < 100000) : OkI X 2 177 [.ref 95, .int (iI c), .int (iI n), .int (iI q)] s (KB4 s (kcN (fun x => rnM s (vA s 98 32 + x)) n.toNat (dgI 5 n.toNat q.toNat) lg (vA s 98 (0 + c)) (vA s 98 (24 + c)) 0) lg (dgI 5 n.toNat q.toNat) n) := by
  refine Ok.of (r := vm_m177) (ls := [some (.ref 95), some (.int (iI c)), some (.int (iI n)), some (.int (iI q)), none, none, none, none, none, none]) rfl (Nat.le_of_ble_eq_true rfl) rfl (fun d hd => ?_)
  obtain ⟨x1, x2, x3, x4, x5, x6, x7, x8⟩ := id hT
  obtain ⟨m1, m2, m3, m4⟩ := id hm
  have hh := m3 (0 + c) (by omega) (by omega)
  have h6 := (m4 c c0 c1).2.1
  generalize hA : kcN (fun x => rnM s (vA s 98 32 + x)) n.toNat (dgI 5 n.toNat q.toNat) lg (vA s 98 (0 + c)) (vA s 98 (24 + c)) 0 = A
  refine Gs_iload_n p177_0 rfl rfl ?_
  refine Gs_ist4 p177_1 (by first | rfl | assumption) ?_
  refine Gs_iload_n p177_3 rfl rfl ?_
  refine Gs_iconst p177_4 ?_
  refine Gs_isub p177_5 ?_
  refine Gs_ist5 p177_6 (by first | rfl | assumption) ?_
  refine dn (n := n) (P := fun t => ∀ (y : St) (rest kk : Int), kk = n - 1 - t → rest = ((q.toNat / 5 ^ t.toNat : Nat) : Int) → (∀ a z, a ≠ 104 → vA y a z = vA s a z) → (∀ a f, vF y a f = vF s a f) → (∀ j : Nat, kk < (j : Int) → (j : Int) < n → vA y 104 j = (dgI 5 n.toNat q.toNat) j) → Gs X d 177 8 [some (.ref 95), some (.int (iI c)), some (.int (iI n)), some (.int (iI q)), some (.int (iI rest)), some (.int (iI kk)), none, none, none, none] [] (y) (fun vv yy => ∃ zz : Int, vv = some (.int (iI zz)) ∧ (KB4 s A lg (dgI 5 n.toNat q.toNat) n) zz yy)) (by omega) (fun t ht htn iht => ?_) ?_ _ q _ (by omega) (by rw [show (0 : Int).toNat = 0 from rfl, Nat.pow_zero, Nat.div_one]; omega) (fun _ _ _ => rfl) (fun _ _ => rfl) (fun j j0 j1 => absurd j1 (by omega))
  · show ∀ (y : St) (rest kk : Int), kk = n - 1 - t → rest = ((q.toNat / 5 ^ t.toNat : Nat) : Int) → (∀ a z, a ≠ 104 → vA y a z = vA s a z) → (∀ a f, vF y a f = vF s a f) → (∀ j : Nat, kk < (j : Int) → (j : Int) < n → vA y 104 j = (dgI 5 n.toNat q.toNat) j) → Gs X d 177 8 [some (.ref 95), some (.int (iI c)), some (.int (iI n)), some (.int (iI q)), some (.int (iI rest)), some (.int (iI kk)), none, none, none, none] [] (y) _
    intro y rest kk hkk hre ya2 yf2 yj
    have rb : q.toNat / 5 ^ t.toNat ≤ q.toNat := Nat.div_le_self _ _
    generalize hv : q.toNat / 5 ^ t.toNat = v at hre rb
    refine Gs_iload p177_8 rfl rfl ?_
    refine Gs_if_lt (tgt := 36) p177_10 (by rfl) (by first | assumption | exact ⟨by omega, by omega⟩ | (split <;> exact ⟨by omega, by omega⟩)) (fun hc10 => absurd ‹_› (by first | omega | assumption)) (fun hc10 => ?_)
    refine Gs_aload_n p177_13 rfl rfl ?_
    refine Gs_getR p177_14 (by first | rfl | assumption | exact (show isTale _ from by assumption).1 | exact (show isCamp _ _ from by assumption).1 | exact (show isRow _ _ from by assumption).1) (by rfl) ?_
    refine Gs_iload p177_17 rfl rfl ?_
    refine Gs_iload p177_19 rfl rfl ?_
    refine Gs_iconst p177_21 ?_
    refine Gs_irem p177_22 (by omega) (by omega) (by omega) (by omega) ?_
    refine Gs_iast p177_23 (by first | rfl | assumption | exact (show isTale _ from by assumption).1 | exact (show isCamp _ _ from by assumption).1 | exact (show isRow _ _ from by assumption).1) (by omega) (by omega) (by omega) ?_
    refine Gs_iload p177_24 rfl rfl ?_
    refine Gs_iconst p177_26 ?_
    refine Gs_idiv p177_27 (by omega) (by omega) (by omega) (by omega) ?_
    refine Gs_ist4 p177_28 (by first | rfl | assumption) ?_
    refine Gs_iinc5 (b55 := none) p177_30 (by first | rfl | assumption) ?_
    refine Gs_goto (tgt := 8) p177_33 (by rfl) ?_
    have ih2 := iht (sA y 104 kk (rest % 5)) (rest / 5) (kk + -1) (by omega) ?_ (fun a z h => by rw [vA_sA, if_neg (fun r => h r.1)]; exact ya2 a z h) yf2 (fun j j0 j1 => ?_)
    · exact ih2
    · rw [hre, show (t + 1).toNat = t.toNat + 1 by omega, ← dg_next, hv]
      omega
    · rw [vA_sA]
      by_cases ej : (j : Int) = kk
      · rw [if_pos ⟨rfl, ej⟩, hre]
        unfold dgI
        rw [show j = n.toNat - 1 - t.toNat by omega, ← dg_step (by omega), hv]
        omega
      · rw [if_neg (fun r => ej r.2)]; exact yj j (by omega) j1
  · show ∀ (y : St) (rest kk : Int), kk = n - 1 - (n) → rest = ((q.toNat / 5 ^ (n).toNat : Nat) : Int) → (∀ a z, a ≠ 104 → vA y a z = vA s a z) → (∀ a f, vF y a f = vF s a f) → (∀ j : Nat, kk < (j : Int) → (j : Int) < n → vA y 104 j = (dgI 5 n.toNat q.toNat) j) → Gs X d 177 8 [some (.ref 95), some (.int (iI c)), some (.int (iI n)), some (.int (iI q)), some (.int (iI rest)), some (.int (iI kk)), none, none, none, none] [] (y) _
    intro y rest kk hkk hre ya2 yf2 yj
    have hr : ∀ j : Nat, (j : Int) < n → vA y 104 j = (dgI 5 n.toNat q.toNat) j ∧ 0 ≤ (dgI 5 n.toNat q.toNat) j ∧ (dgI 5 n.toNat q.toNat) j < 5 := fun j hj => ⟨yj j (by omega) hj, by unfold dgI; omega, by unfold dgI; have := dgN_lt (b := 5) (n := n.toNat) (c := q.toNat) (i := j) (by decide); omega⟩
    have eA : kmap (rNx s n (dgI 5 n.toNat q.toNat) lg 0 (vA s 98 (0 + c)) (vA s 98 (24 + c))) 0 = A := by
      rw [← hA]
      unfold rNx
      rw [show n.toNat - (0 : Int).toNat = n.toNat by omega, kcN_cong n.toNat (fun i => (dgI 5 n.toNat q.toNat) ((0 : Int).toNat + i)) (dgI 5 n.toNat q.toNat) (fun x => lg x - cnt4 (dgI 5 n.toNat q.toNat) (0 : Int).toNat x) lg _ _ _ (fun i hi => ⟨by show (dgI 5 n.toNat q.toNat) ((0 : Int).toNat + i) = _; rw [show (0 : Int).toNat + i = i by omega], by unfold dgI; omega⟩) (fun x _ _ => by show lg x - 0 = lg x; omega)]
      cases kcN (fun x => rnM s (vA s 98 32 + x)) n.toNat (dgI 5 n.toNat q.toNat) lg (vA s 98 (0 + c)) (vA s 98 (24 + c)) 0 with
      | none => rfl
      | some m => show some (m + 0) = some m; rw [Int.add_zero]
    refine Gs_iload p177_8 rfl rfl ?_
    refine Gs_if_lt (tgt := 36) p177_10 (by rfl) (by first | assumption | exact ⟨by omega, by omega⟩ | (split <;> exact ⟨by omega, by omega⟩)) (fun hc10 => ?_) (fun hc10 => absurd ‹_› (by first | omega | assumption))
    refine Gs_aload_n p177_36 rfl rfl ?_
    refine Gs_getR p177_37 (by first | rfl | assumption | exact (show isTale _ from by assumption).1 | exact (show isCamp _ _ from by assumption).1 | exact (show isRow _ _ from by assumption).1) (by rfl) ?_
    refine Gs_iconst p177_40 ?_
    refine Gs_iload_n p177_41 rfl rfl ?_
    refine Gs_iadd p177_42 ?_
    refine Gs_iald p177_43 (by first | rfl | assumption | exact (show isTale _ from by assumption).1 | exact (show isCamp _ _ from by assumption).1 | exact (show isRow _ _ from by assumption).1) (by omega) (by omega) (by omega) ?_
    rw [ya2 98 _ (by decide)]
    refine Gs_ist5 p177_44 (by first | rfl | assumption) ?_
    refine Gs_aload_n p177_46 rfl rfl ?_
    refine Gs_getR p177_47 (by first | rfl | assumption | exact (show isTale _ from by assumption).1 | exact (show isCamp _ _ from by assumption).1 | exact (show isRow _ _ from by assumption).1) (by rfl) ?_
    refine Gs_bipush p177_50 (by decide) ?_
    refine Gs_iload_n p177_52 rfl rfl ?_
    refine Gs_iadd p177_53 ?_
    refine Gs_iald p177_54 (by first | rfl | assumption | exact (show isTale _ from by assumption).1 | exact (show isCamp _ _ from by assumption).1 | exact (show isRow _ _ from by assumption).1) (by omega) (by omega) (by omega) ?_
    rw [ya2 98 _ (by decide)]
    refine Gs_ist6 p177_55 (by first | rfl | assumption) ?_
    refine Gs_iconst p177_57 ?_
    refine Gs_ist7 p177_58 (by first | rfl | assumption) ?_
    refine Gs_iconst p177_60 ?_
    refine Gs_ist8 p177_61 (by first | rfl | assumption) ?_
    refine dn (n := n) (P := fun k => ∀ (u : St) (hot last many : Int) (b9 : Option Value), KM y u lg (dgI 5 n.toNat q.toNat) k.toNat → 1 ≤ hot → hot ≤ 20 → rg last → 0 ≤ many → many ≤ k → kmap (rNx s n (dgI 5 n.toNat q.toNat) lg k hot last) many = A → Gs X d 177 63 [some (.ref 95), some (.int (iI c)), some (.int (iI n)), some (.int (iI q)), some (.int (iI rest)), some (.int (iI hot)), some (.int (iI last)), some (.int (iI many)), some (.int (iI k)), b9] [] (u) (fun vv yy => ∃ zz : Int, vv = some (.int (iI zz)) ∧ (KB4 s A lg (dgI 5 n.toNat q.toNat) n) zz yy)) (by omega) (fun k hk hkn ihk => ?_) ?_ _ _ _ 0 _ ⟨fun _ _ _ => rfl, fun _ _ => rfl, fun x x0 x1 => ⟨by rw [ya2 106 x (by decide), hlg x x0 x1]; show lg x = lg x - 0; omega, by show 0 ≤ lg x - 0; have := hlgb x x0 x1; omega⟩⟩ h1 hh.2 ⟨by omega, by omega⟩ (by omega) (by omega) eA
    · show ∀ (u : St) (hot last many : Int) (b9 : Option Value), KM y u lg (dgI 5 n.toNat q.toNat) k.toNat → 1 ≤ hot → hot ≤ 20 → rg last → 0 ≤ many → many ≤ k → kmap (rNx s n (dgI 5 n.toNat q.toNat) lg k hot last) many = A → Gs X d 177 63 [some (.ref 95), some (.int (iI c)), some (.int (iI n)), some (.int (iI q)), some (.int (iI rest)), some (.int (iI hot)), some (.int (iI last)), some (.int (iI many)), some (.int (iI k)), b9] [] (u) _
      intro u hot last many b9 o g1 g2 gl m0 mk e
      exact l_kturn (by omega) hT ⟨m1, m2⟩ hlgb (fun a z x1 x2 => ya2 a z x1) yf2 hr n6 hk hkn o g1 g2 gl m0 mk e ihk
    · show ∀ (u : St) (hot last many : Int) (b9 : Option Value), KM y u lg (dgI 5 n.toNat q.toNat) (n).toNat → 1 ≤ hot → hot ≤ 20 → rg last → 0 ≤ many → many ≤ (n) → kmap (rNx s n (dgI 5 n.toNat q.toNat) lg (n) hot last) many = A → Gs X d 177 63 [some (.ref 95), some (.int (iI c)), some (.int (iI n)), some (.int (iI q)), some (.int (iI rest)), some (.int (iI hot)), some (.int (iI last)), some (.int (iI many)), some (.int (iI (n))), b9] [] (u) _
      intro u hot last many b9 o g1 g2 gl m0 mk e
      have e : kmap (kcN (fun x => rnM s (vA s 98 32 + x)) (n.toNat - n.toNat) (fun i => (dgI 5 n.toNat q.toNat) (n.toNat + i)) (fun x => lg x - cnt4 (dgI 5 n.toNat q.toNat) n.toNat x) hot last n) many = A := e
      rw [show n.toNat - n.toNat = 0 by omega] at e
      refine Gs_iload p177_63 rfl rfl ?_
      refine Gs_iload_n p177_65 rfl rfl ?_
      refine Gs_icmp_ge (tgt := 180) p177_66 (by rfl) (by first | assumption | exact ⟨by omega, by omega⟩ | (split <;> exact ⟨by omega, by omega⟩)) (by first | assumption | exact ⟨by omega, by omega⟩ | (split <;> exact ⟨by omega, by omega⟩)) (fun hc66 => ?_) (fun hc66 => absurd ‹_› (by first | omega | assumption))
      refine Gs_aload_n p177_180 rfl rfl ?_
      refine Gs_iload_n p177_181 rfl rfl ?_
      refine Gs_callV1i p177_182 (by rfl) (by rfl) (by rfl) (Nat.le_of_ble_eq_true rfl) (by decide) (c_giveBack (r := (dgI 5 n.toNat q.toNat)) (by omega) (by omega) (fun j hj => ⟨(o.1 104 _ (by decide)).trans (hr j hj).1, (hr j hj).2⟩)) (by omega) (fun z182 s182 h182 => ?_)
      refine Gs_ist8 p177_185 (by first | rfl | assumption) ?_
      refine Gs_iload p177_187 rfl rfl ?_
      refine Gs_iret p177_189 rfl ⟨_, rfl, ?_⟩
      refine ⟨?_, fun x x0 x1 => by rw [h182.2.2.2 x x0 x1, (o.2.2 x x0 x1).1]; omega, fun j hj => (h182.2.1 104 _ (by decide)).trans ((o.1 104 _ (by decide)).trans (hr j hj).1), fun a z x1 x2 => by rw [h182.2.1 a z x2, o.1 a z x2, ya2 a z x1], fun a f => by rw [h182.2.2.1, o.2.1, yf2]⟩
      rw [← e]
      show many = 0 + many
      omega

theorem Inv.F {R : Int → Int} {n : Nat} {lg : Int → Int} {hot last : Int} {q : Nat} {F : Int} {b : Nat → Int} (h : Inv R n lg hot last q F b) : F = 1000000 ∨ (0 ≤ F ∧ F ≤ n ∧ ∀ i, i < n → 0 ≤ b i ∧ b i < 5) := by
  rcases h with ⟨h1, _⟩ | ⟨c0, h1, h2, h3, _⟩
  · exact Or.inl h1
  · have := kcN_le _ _ _ _ _ _ _ h2
    refine Or.inr ⟨this.1, this.2, fun i hi => ?_⟩
    rw [h3 i hi]
    unfold dgI
    have := dgN_lt (b := 5) (n := n) (c := c0) (i := i) (by decide)
    omega
set_option maxHeartbeats 4000000 in
set_option maxRecDepth 4000 in
theorem c_keeps {X : vX} {s : St} {c n : Int} {lg : Int → Int} (hT : MT s) (hm : MC s 98 (vA s 96 2)) (c0 : 0 ≤ c) (c1 : c < vA s 96 2) (n1 : 1 ≤ n) (n6 : n ≤ 6) (h1 : 1 ≤ vA s 98 (0 + c)) (hlg : ∀ x, 0 ≤ x → x < 4 → vA s 106 x = lg x) (hlgb : ∀ x, 0 ≤ x → x < 4 → 0 ≤ lg x ∧ lg x ≤ 200) : OkI X 3 179 [.ref 95, .int (iI c), .int (iI n)] s (fun z t => Inv (fun x => rnM s (vA s 98 32 + x)) n.toNat lg (vA s 98 (0 + c)) (vA s 98 (24 + c)) (5 ^ n.toNat) z (fun i => vA t 105 i) ∧ (∀ a z, a ≠ 104 → a ≠ 105 → a ≠ 106 → vA t a z = vA s a z) ∧ (∀ a f, vF t a f = vF s a f)) := by
  refine Ok.of (r := vm_m179) (ls := [some (.ref 95), some (.int (iI c)), some (.int (iI n)), none, none, none, none]) rfl (Nat.le_of_ble_eq_true rfl) rfl (fun d hd => ?_)
  have pw : 5 ^ n.toNat ≤ 5 ^ 6 := Nat.pow_le_pow_right (by decide) (by omega)
  have pw : 5 ^ n.toNat ≤ 15625 := pw
  have pwI : 0 ≤ ((5 ^ n.toNat : Nat) : Int) := Int.natCast_nonneg _
  obtain ⟨x1, x2, x3, x4, x5, x6, x7, x8⟩ := id hT
  refine Gs_iconst p179_0 ?_
  refine Gs_ist3 p179_1 (by first | rfl | assumption) ?_
  refine Gs_iconst p179_2 ?_
  refine Gs_ist4 p179_3 (by first | rfl | assumption) ?_
  rw [show (1 : Int) = ((5 ^ (0 : Int).toNat : Nat) : Int) from rfl]
  refine dn (n := n) (P := fun i => Gs X d 179 5 [some (.ref 95), some (.int (iI c)), some (.int (iI n)), some (.int (iI ((5 ^ i.toNat : Nat) : Int))), some (.int (iI i)), none, none] [] (s) (fun vv yy => ∃ zz : Int, vv = some (.int (iI zz)) ∧ (fun z t => Inv (fun x => rnM s (vA s 98 32 + x)) n.toNat lg (vA s 98 (0 + c)) (vA s 98 (24 + c)) (5 ^ n.toNat) z (fun i => vA t 105 i) ∧ (∀ a z, a ≠ 104 → a ≠ 105 → a ≠ 106 → vA t a z = vA s a z) ∧ (∀ a f, vF t a f = vF s a f)) zz yy)) (by omega) (fun i hi hin ih => ?_) ?_
  · show Gs X d 179 5 [some (.ref 95), some (.int (iI c)), some (.int (iI n)), some (.int (iI ((5 ^ i.toNat : Nat) : Int))), some (.int (iI i)), none, none] [] (s) _
    refine Gs_iload p179_5 rfl rfl ?_
    refine Gs_iload_n p179_7 rfl rfl ?_
    refine Gs_icmp_ge (tgt := 21) p179_8 (by rfl) (by first | assumption | exact ⟨by omega, by omega⟩ | (split <;> exact ⟨by omega, by omega⟩)) (by first | assumption | exact ⟨by omega, by omega⟩ | (split <;> exact ⟨by omega, by omega⟩)) (fun hc8 => absurd ‹_› (by first | omega | assumption)) (fun hc8 => ?_)
    refine Gs_iload_n p179_11 rfl rfl ?_
    refine Gs_iconst p179_12 ?_
    refine Gs_imul p179_13 ?_
    refine Gs_ist3 p179_14 (by first | rfl | assumption) ?_
    refine Gs_iinc4 (b54 := none) p179_15 (by first | rfl | assumption) ?_
    refine Gs_goto (tgt := 5) p179_18 (by rfl) ?_
    rw [show ((5 ^ (i + 1).toNat : Nat) : Int) = ((5 ^ i.toNat : Nat) : Int) * 5 by rw [show (i + 1).toNat = i.toNat + 1 by omega, Nat.pow_succ]; omega] at ih
    exact ih
  · show Gs X d 179 5 [some (.ref 95), some (.int (iI c)), some (.int (iI n)), some (.int (iI ((5 ^ (n).toNat : Nat) : Int))), some (.int (iI (n))), none, none] [] (s) _
    refine Gs_iload p179_5 rfl rfl ?_
    refine Gs_iload_n p179_7 rfl rfl ?_
    refine Gs_icmp_ge (tgt := 21) p179_8 (by rfl) (by first | assumption | exact ⟨by omega, by omega⟩ | (split <;> exact ⟨by omega, by omega⟩)) (by first | assumption | exact ⟨by omega, by omega⟩ | (split <;> exact ⟨by omega, by omega⟩)) (fun hc8 => ?_) (fun hc8 => absurd ‹_› (by first | omega | assumption))
    refine Gs_ldc (z := (1000000)) p179_21 (by decide) (by decide) ?_
    refine Gs_ist4 p179_23 (by first | rfl | assumption) ?_
    refine Gs_iconst p179_25 ?_
    refine Gs_ist5 p179_26 (by first | rfl | assumption) ?_
    refine dn (n := ((5 ^ n.toNat : Nat) : Int)) (P := fun q => ∀ (y : St) (F : Int) (b6 : Option Value), (∀ a z, a ≠ 104 → a ≠ 105 → a ≠ 106 → vA y a z = vA s a z) → (∀ a f, vF y a f = vF s a f) → (∀ x, 0 ≤ x → x < 4 → vA y 106 x = lg x) → Inv (fun x => rnM s (vA s 98 32 + x)) n.toNat lg (vA s 98 (0 + c)) (vA s 98 (24 + c)) q.toNat F (fun i => vA y 105 i) → Gs X d 179 28 [some (.ref 95), some (.int (iI c)), some (.int (iI n)), some (.int (iI ((5 ^ n.toNat : Nat) : Int))), some (.int (iI F)), some (.int (iI q)), b6] [] (y) (fun vv yy => ∃ zz : Int, vv = some (.int (iI zz)) ∧ (fun z t => Inv (fun x => rnM s (vA s 98 32 + x)) n.toNat lg (vA s 98 (0 + c)) (vA s 98 (24 + c)) (5 ^ n.toNat) z (fun i => vA t 105 i) ∧ (∀ a z, a ≠ 104 → a ≠ 105 → a ≠ 106 → vA t a z = vA s a z) ∧ (∀ a f, vF t a f = vF s a f)) zz yy)) (Int.natCast_nonneg _) (fun q hq hqn ihq => ?_) ?_ s 1000000 none (fun _ _ _ _ _ => rfl) (fun _ _ => rfl) hlg (Or.inl ⟨rfl, fun c hc => absurd hc (by omega)⟩)
    · show ∀ (y : St) (F : Int) (b6 : Option Value), (∀ a z, a ≠ 104 → a ≠ 105 → a ≠ 106 → vA y a z = vA s a z) → (∀ a f, vF y a f = vF s a f) → (∀ x, 0 ≤ x → x < 4 → vA y 106 x = lg x) → Inv (fun x => rnM s (vA s 98 32 + x)) n.toNat lg (vA s 98 (0 + c)) (vA s 98 (24 + c)) q.toNat F (fun i => vA y 105 i) → Gs X d 179 28 [some (.ref 95), some (.int (iI c)), some (.int (iI n)), some (.int (iI ((5 ^ n.toNat : Nat) : Int))), some (.int (iI F)), some (.int (iI q)), b6] [] (y) _
      intro y F b6 ya yf yl iv
      have Fb := iv.F
      have e98 : ∀ z, vA y 98 z = vA s 98 z := fun z => ya 98 z (by decide) (by decide) (by decide)
      have e96 : ∀ z, vA y 96 z = vA s 96 z := fun z => ya 96 z (by decide) (by decide) (by decide)
      have B := c_keptBy (X := X) (s := y) (c := c) (n := n) (q := q) (lg := lg) (hT.cong e96) (by rw [e96]; exact hm.cong e98) c0 (by rw [e96]; exact c1) n1 n6 (by rw [e98]; exact h1) yl hlgb hq (by omega)
      rw [show (fun x => rnM y (vA y 98 32 + x)) = (fun x => rnM s (vA s 98 32 + x)) from funext (fun x => by rw [rnM_cong e96, e98]), e98, e98] at B
      refine Gs_iload p179_28 rfl rfl ?_
      refine Gs_iload_n p179_30 rfl rfl ?_
      refine Gs_icmp_ge (tgt := 75) p179_31 (by rfl) (by first | assumption | exact ⟨by omega, by omega⟩ | (split <;> exact ⟨by omega, by omega⟩)) (by first | assumption | exact ⟨by omega, by omega⟩ | (split <;> exact ⟨by omega, by omega⟩)) (fun hc31 => absurd ‹_› (by first | omega | assumption)) (fun hc31 => ?_)
      refine Gs_aload_n p179_34 rfl rfl ?_
      refine Gs_iload_n p179_35 rfl rfl ?_
      refine Gs_iload_n p179_36 rfl rfl ?_
      refine Gs_iload p179_37 rfl rfl ?_
      refine Gs_callV3i p179_39 (by rfl) (by rfl) (by rfl) (Nat.le_of_ble_eq_true rfl) (by decide) (B) (by omega) (fun z39 s39 h39 => ?_)
      have zr : rg z39 := by
        rw [h39.1]
        cases ek : kcN (fun x => rnM s (vA s 98 32 + x)) n.toNat (dgI 5 n.toNat q.toNat) lg (vA s 98 (0 + c)) (vA s 98 (24 + c)) 0 with
        | none => exact ⟨by decide, by decide⟩
        | some m =>
          have := kcN_le _ _ _ _ _ _ _ ek
          show rg m
          exact ⟨by omega, by omega⟩
      have fr : ∀ a z, a ≠ 104 → a ≠ 105 → a ≠ 106 → vA s39 a z = vA s a z := fun a z p1 p2 p3 => (h39.2.2.2.1 a z p1 p3).trans (ya a z p1 p2 p3)
      have ff : ∀ a f, vF s39 a f = vF s a f := fun a f => (h39.2.2.2.2 a f).trans (yf a f)
      have e105 : ∀ z, vA s39 105 z = vA y 105 z := fun z => h39.2.2.2.1 105 z (by decide) (by decide)
      refine Gs_ist6 p179_42 (by first | rfl | assumption) ?_
      refine Gs_iload p179_44 rfl rfl ?_
      refine Gs_iload p179_46 rfl rfl ?_
      refine Gs_icmp_ge (tgt := 69) p179_48 (by rfl) (by first | assumption | exact ⟨by omega, by omega⟩ | (split <;> exact ⟨by omega, by omega⟩)) (by first | assumption | exact ⟨by omega, by omega⟩ | (split <;> exact ⟨by omega, by omega⟩)) (fun h48 => ?_) (fun h48 => ?_)
      · refine Gs_iinc5 (b55 := none) p179_69 (by first | rfl | assumption) ?_
        refine Gs_goto (tgt := 28) p179_72 (by rfl) ?_
        first
          | (have ek : kcN (fun x => rnM s (vA s 98 32 + x)) n.toNat (dgI 5 n.toNat q.toNat) lg (vA s 98 (0 + c)) (vA s 98 (24 + c)) 0 = some z39 := by
               cases ek : kcN (fun x => rnM s (vA s 98 32 + x)) n.toNat (dgI 5 n.toNat q.toNat) lg (vA s 98 (0 + c)) (vA s 98 (24 + c)) 0 with
               | none =>
                 have := h39.1
                 rw [ek] at this
                 have : z39 = 1000000 := this
                 omega
               | some m =>
                 have := h39.1
                 rw [ek] at this
                 exact congrArg some this.symm
             refine ihq _ _ _ (fun a z p1 p2 p3 => by rw [cpS_A, if_neg (fun q => p2 q.1)]; exact fr a z p1 p2 p3) ff (fun x x0 x1 => by rw [cpS_A, if_neg (by omega)]; exact h39.2.1 x x0 x1) ?_
             rw [show (q + 1).toNat = q.toNat + 1 by omega]
             refine iv.take ek (by omega) (fun i hi => ?_)
             show vA (cpS s39 104 0 105 0 n) 105 i = _
             rw [cpS_A, if_pos ⟨rfl, by omega, by omega⟩, show (i : Int) - 0 + 0 = i by omega]
             exact h39.2.2.1 i (by omega))
          | (refine ihq _ _ _ fr ff h39.2.1 ?_
             rw [show (q + 1).toNat = q.toNat + 1 by omega, show (fun i : Nat => vA s39 105 i) = (fun i : Nat => vA y 105 i) from funext (fun i => e105 i)]
             refine iv.skip (fun m em => ?_) (by omega)
             have := h39.1
             rw [em] at this
             have : z39 = m := this
             omega)
      · refine Gs_iload p179_51 rfl rfl ?_
        refine Gs_ist4 p179_53 (by first | rfl | assumption) ?_
        refine Gs_aload_n p179_55 rfl rfl ?_
        refine Gs_getR p179_56 (by first | rfl | assumption | exact (show isTale _ from by assumption).1 | exact (show isCamp _ _ from by assumption).1 | exact (show isRow _ _ from by assumption).1) (by rfl) ?_
        refine Gs_iconst p179_59 ?_
        refine Gs_aload_n p179_60 rfl rfl ?_
        refine Gs_getR p179_61 (by first | rfl | assumption | exact (show isTale _ from by assumption).1 | exact (show isCamp _ _ from by assumption).1 | exact (show isRow _ _ from by assumption).1) (by rfl) ?_
        refine Gs_iconst p179_64 ?_
        refine Gs_iload_n p179_65 rfl rfl ?_
        refine Gs_callS5W p179_66 (by rfl) (Nat.le_of_ble_eq_true rfl) (by decide) (c_copies isA104 isA105 (by decide) (by omega) (by omega) (by omega) (by omega) (by omega) (by decide) (by decide)) (by omega) ?_
        refine Gs_iinc5 (b55 := none) p179_69 (by first | rfl | assumption) ?_
        refine Gs_goto (tgt := 28) p179_72 (by rfl) ?_
        first
          | (have ek : kcN (fun x => rnM s (vA s 98 32 + x)) n.toNat (dgI 5 n.toNat q.toNat) lg (vA s 98 (0 + c)) (vA s 98 (24 + c)) 0 = some z39 := by
               cases ek : kcN (fun x => rnM s (vA s 98 32 + x)) n.toNat (dgI 5 n.toNat q.toNat) lg (vA s 98 (0 + c)) (vA s 98 (24 + c)) 0 with
               | none =>
                 have := h39.1
                 rw [ek] at this
                 have : z39 = 1000000 := this
                 omega
               | some m =>
                 have := h39.1
                 rw [ek] at this
                 exact congrArg some this.symm
             refine ihq _ _ _ (fun a z p1 p2 p3 => by rw [cpS_A, if_neg (fun q => p2 q.1)]; exact fr a z p1 p2 p3) ff (fun x x0 x1 => by rw [cpS_A, if_neg (by omega)]; exact h39.2.1 x x0 x1) ?_
             rw [show (q + 1).toNat = q.toNat + 1 by omega]
             refine iv.take ek (by omega) (fun i hi => ?_)
             show vA (cpS s39 104 0 105 0 n) 105 i = _
             rw [cpS_A, if_pos ⟨rfl, by omega, by omega⟩, show (i : Int) - 0 + 0 = i by omega]
             exact h39.2.2.1 i (by omega))
          | (refine ihq _ _ _ fr ff h39.2.1 ?_
             rw [show (q + 1).toNat = q.toNat + 1 by omega, show (fun i : Nat => vA s39 105 i) = (fun i : Nat => vA y 105 i) from funext (fun i => e105 i)]
             refine iv.skip (fun m em => ?_) (by omega)
             have := h39.1
             rw [em] at this
             have : z39 = m := this
             omega)
    · show ∀ (y : St) (F : Int) (b6 : Option Value), (∀ a z, a ≠ 104 → a ≠ 105 → a ≠ 106 → vA y a z = vA s a z) → (∀ a f, vF y a f = vF s a f) → (∀ x, 0 ≤ x → x < 4 → vA y 106 x = lg x) → Inv (fun x => rnM s (vA s 98 32 + x)) n.toNat lg (vA s 98 (0 + c)) (vA s 98 (24 + c)) (((5 ^ n.toNat : Nat) : Int)).toNat F (fun i => vA y 105 i) → Gs X d 179 28 [some (.ref 95), some (.int (iI c)), some (.int (iI n)), some (.int (iI ((5 ^ n.toNat : Nat) : Int))), some (.int (iI F)), some (.int (iI (((5 ^ n.toNat : Nat) : Int)))), b6] [] (y) _
      intro y F b6 ya yf yl iv
      refine Gs_iload p179_28 rfl rfl ?_
      refine Gs_iload_n p179_30 rfl rfl ?_
      refine Gs_icmp_ge (tgt := 75) p179_31 (by rfl) (by first | assumption | exact ⟨by omega, by omega⟩ | (split <;> exact ⟨by omega, by omega⟩)) (by first | assumption | exact ⟨by omega, by omega⟩ | (split <;> exact ⟨by omega, by omega⟩)) (fun hc31 => ?_) (fun hc31 => absurd ‹_› (by first | omega | assumption))
      refine Gs_iload p179_75 rfl rfl ?_
      refine Gs_iret p179_77 rfl ⟨_, rfl, ?_⟩
      exact ⟨iv, ya, yf⟩
