/-! the law's entry -/
theorem vm_step_new {d pc x a : Nat} {r : vm_M} {ls : vm_L} {st : List Value} {w : vm_W} (ha : ∃ x, vwCl[a]? = some x) (hw : w.1 < 1000) : vm_step d r (pc, .new x, 3, a, 0, 0) ls st w = some (pc + 3, ls, .ref w.1 :: st, ct_new w a) := vm_new_eq (pc := pc) ha hw
/-- from the law's entry to its loop -/
theorem law_begin (L : Nat) (xs : Nat → Int32) {R : Option Value × vm_W} (w0 : vm_W) (hw0 : w0 = (0, 0, fun i => if i = vm_scr then .inl (L, xs) else .inr (.inr (100, []))))
    (k : ∃ F, vm_run F 2000 205 18 [some (.ref vm_scr), some (.ref 0), some (.ref 95), some (.int (iI (5 * 0)))] [] (conc (L, xs) ct_s) = some R) : ∃ F, vm_run F 2000 205 0 (vm_ent 4 [.ref vm_scr]) [] w0 = some R := by
  subst hw0
  have L0 : vm_like ct_w0 (0, 0, fun i => if i = vm_scr then .inl (L, xs) else .inr (.inr (100, []))) := ⟨rfl, rfl, Nat.zero_le _, fun i hi => (if_neg hi).symm, rfl⟩
  have L1 := ct_like_new L0 (by decide) 9
  obtain ⟨w1', r1, L2, f1⟩ := vm_like_run _ _ _ _ _ _ _ _ _ _ L1 ct_o1
  have n1 : ct_w1.1 = 95 := eq_of_beq (ct_g 1 rfl)
  have L3 := ct_like_new L2 (by rw [n1]; decide) 10
  obtain ⟨w2', r2, L4, f2⟩ := vm_like_run _ _ _ _ _ _ _ _ _ _ L3 ct_o2
  have n1' : w1'.1 = 95 := by rw [← L2.1]; exact n1
  have n2 : ct_w2.1 = 113 := eq_of_beq (ct_g 3 rfl)
  have n2' : w2'.1 = 113 := by rw [← L4.1]; exact n2
  have hw2 : w2' = conc (L, xs) ct_s := by
    refine Prod.ext n2' (Prod.ext ?_ ?_)
    · show w2'.2.1 = ly_S
      rw [← L4.2.1]; exact eq_of_beq (ct_g 4 rfl)
    · funext i
      show w2'.2.2 i = vc_c (L, xs) ct_s i
      by_cases hi : i < 113
      · rw [← L4.2.2.2.1 i (ly_ne hi)]
        exact ct_cell (L, xs) i hi
      · have e2 := f2 i (by rw [n2']; omega)
        have e3 : (ct_new w1' 10).2.2 i = w1'.2.2 i := by
          show vm_up w1'.2.2 w1'.1 _ i = _
          unfold vm_up
          rw [if_neg (by rw [n1']; omega)]
        have e4 := f1 i (by rw [n1']; omega)
        rw [e2, e3, e4]
        show vm_up (fun i => if i = vm_scr then Sum.inl (L, xs) else Sum.inr (Sum.inr (100, []))) 0 _ i = _
        unfold vm_up vc_c
        rw [if_neg (by omega)]
        dsimp only
        by_cases hs : i = vm_scr
        · rw [if_pos hs, if_pos hs]
        · rw [if_neg hs, if_neg hs]
          have : ly i = (3, 0, []) := by
            unfold ly
            rw [List.getElem?_eq_none (by show ly_T.length ≤ i; have : ly_T.length = 113 := rfl; omega)]; rfl
          rw [this]
          rfl
  rw [← hw2] at k
  refine vm_run_st p205_0 rfl rfl (vm_step_new ⟨_, rfl⟩ (by show (0 : Nat) < 1000; decide)) ?_
  refine vm_run_st p205_3 rfl rfl rfl ?_
  refine vm_run_ca (as := [.ref 0]) (rest := [.ref 0]) p205_4 rfl rfl (by decide) rfl (by decide) r1 ?_
  refine vm_run_st (ls' := [some (.ref vm_scr), some (.ref 0), none, none]) p205_7 rfl rfl rfl ?_
  refine vm_run_st p205_8 rfl rfl (vm_step_new ⟨_, rfl⟩ (by rw [n1']; decide)) ?_
  rw [n1']
  refine vm_run_st p205_11 rfl rfl rfl ?_
  refine vm_run_ca (as := [.ref 95]) (rest := [.ref 95]) p205_12 rfl rfl (by decide) rfl (by decide) r2 ?_
  refine vm_run_st (ls' := [some (.ref vm_scr), some (.ref 0), some (.ref 95), none]) p205_15 rfl rfl rfl ?_
  refine vm_run_st p205_16 rfl rfl rfl ?_
  refine vm_run_st (ls' := [some (.ref vm_scr), some (.ref 0), some (.ref 95), some (.int (iI (5 * 0)))]) p205_17 rfl rfl rfl ?_
  exact k
