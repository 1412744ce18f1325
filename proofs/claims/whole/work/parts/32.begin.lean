/-! the world behind the two constructors is the state ct_s; the relation holds of it -/
theorem ct_is_i {o : Option (Option Value × vm_W)} (h : ct_is o = true) : ∃ w, o = some (none, w) := by
  unfold ct_is at h
  split at h
  · exact ⟨_, rfl⟩
  · cases h
theorem ct_f_ok (s : St) (i : Nat) : ∀ (fs : List (Option Nat)) (vs : List Value) (k : Nat), ct_f fs vs = true → (∀ (j : Nat) (x : Int32), vs[j]? = some (.int x) → iI (vF s i (k + j)) = x) → ly_f s i k fs = vs := by
  intro fs
  induction fs with
  | nil => intro vs k h _; cases vs with
    | nil => rfl
    | cons a t => cases h
  | cons a t ih =>
    intro vs k h hx
    cases vs with
    | nil => cases a <;> cases h
    | cons v u =>
      cases a with
      | some j =>
        cases v <;> first | (cases h; done) | skip
        rename_i m
        have h : ((j == m) && ct_f t u) = true := h
        rw [Bool.and_eq_true, beq_iff_eq] at h
        show Value.ref j :: ly_f s i (k + 1) t = _
        rw [h.1, ih u (k + 1) h.2 (fun j x hj => by rw [show k + 1 + j = k + (j + 1) by omega]; exact hx (j + 1) x hj)]
      | none =>
        cases v <;> first | (cases h; done) | skip
        rename_i m
        have h : ct_f t u = true := h
        show Value.int (iI (vF s i k)) :: ly_f s i (k + 1) t = _
        rw [ih u (k + 1) h (fun j x hj => by rw [show k + 1 + j = k + (j + 1) by omega]; exact hx (j + 1) x hj), show iI (vF s i k) = m from hx 0 m rfl]
theorem Rel_0 : Rel 0 ct_s := by
  have hn : vA ct_s 96 2 = 3 := ct_e9
  have hL : vF ct_s 5 4 = 6 := ct_e4
  unfold Rel
  rw [hn, hL]
  refine ⟨by omega, ⟨by rw [ct_e0]; omega, by rw [ct_e0]; omega, by rw [ct_e0, ct_e1], fun j h0 h1 => by rw [ct_e0] at h1; omega⟩, ⟨by rw [ct_e2]; omega, by rw [ct_e2]; omega, by rw [ct_e2, ct_e3], fun j h0 h1 => by rw [ct_e2] at h1; omega⟩, ?_, ?_, ⟨by rw [ct_e15]; omega, by rw [ct_e15]; omega, by rw [ct_e16]; omega, by rw [ct_e16]; omega, by rw [ct_e16, ct_e17], fun j h1 => by rw [ct_e16] at h1; omega⟩, ⟨ct_e18, by rw [ct_e19]; omega, by rw [ct_e19]; omega, by rw [ct_e19, ct_e20], fun j h1 => by rw [ct_e19] at h1; omega⟩⟩
  · refine ⟨⟨by rw [hL]; omega, by rw [hL]; omega, by rw [hL]; exact ct_e6, by rw [ct_e7]; omega, by rw [ct_e7]; omega, fun j h0 h1 => ?_, fun j h0 h1 => ?_⟩, by rw [hL]; omega, by rw [hL]; exact ct_e5, by rw [ct_e7]; exact ct_e8, fun j h0 h1 => ?_, fun j h0 h1 => ?_, by rw [hn]; omega, by rw [hn]; omega⟩
    · rw [hL] at h1
      obtain ⟨m, rfl, hm⟩ := ct_nat h0 h1
      have := ct_q0 m (by omega)
      show 0 ≤ vA ct_s 7 m ∧ vA ct_s 7 m ≤ 9
      omega
    · rw [ct_e7] at h1
      obtain ⟨m, rfl, hm⟩ := ct_nat h0 h1
      have := ct_q1 m (by omega)
      show 0 ≤ vA ct_s 9 m ∧ vA ct_s 9 m ≤ 3
      omega
    · rw [hL] at h1 ⊢
      obtain ⟨m, rfl, hm⟩ := ct_nat h0 h1
      have := ct_q0 m (by omega)
      exact ⟨this.1, this.2.2⟩
    · rw [ct_e7] at h1
      obtain ⟨m, rfl, hm⟩ := ct_nat h0 h1
      exact (ct_q1 m (by omega)).1
  · refine ⟨⟨by omega, by omega, by rw [ct_e10]; omega, by rw [ct_e11]; omega, by rw [ct_e11]; omega, fun k w h0 h1 h2 h3 => ?_⟩, by rw [ct_e11]; exact ct_e12.symm, by rw [ct_e11]; omega, fun k h0 h1 => ?_, fun k w h0 h1 h2 h3 => ?_, fun k h0 h1 => ?_⟩
    · obtain ⟨m, rfl, hm⟩ := ct_nat h0 h1
      obtain ⟨u, rfl, hu⟩ := ct_nat h2 h3
      exact ct_q2 m u (by omega) (by omega)
    · obtain ⟨m, rfl, hm⟩ := ct_nat h0 h1
      obtain ⟨a1, a2, a3, a4, a5, a6, a7, a8⟩ := ct_q3 m (by omega)
      refine ⟨by rw [Int.zero_add]; exact a1, by rw [Int.zero_add]; exact a3, by rw [Int.zero_add]; exact a6, by rw [Int.zero_add]; exact a7, by omega, fun z => by omega, fun _ => ⟨a4, a5⟩⟩
    · obtain ⟨m, rfl, hm⟩ := ct_nat h0 h1
      obtain ⟨u, rfl, hu⟩ := ct_nat h2 h3
      rw [Int.zero_add]
      exact ct_q4 m u (by omega) (by omega)
    · have hk : k = 3 := by omega
      subst hk
      refine ⟨ct_e13, ct_e14, fun w h2 h3 => ?_⟩
      obtain ⟨u, rfl, hu⟩ := ct_nat h2 h3
      exact ct_q5 u (by omega)
theorem ct_o1 : ct_1 = some (none, ct_w1) := by
  obtain ⟨w, h⟩ := ct_is_i (ct_g 0 rfl)
  rw [h]
  unfold ct_w1
  rw [h]
theorem ct_o2 : ct_2 = some (none, ct_w2) := by
  obtain ⟨w, h⟩ := ct_is_i (ct_g 2 rfl)
  rw [h]
  unfold ct_w2
  rw [h]
theorem ct_like_new {w w' : vm_W} (h : vm_like w w') (hw : w.1 < 1000) (a : Nat) : vm_like (ct_new w a) (ct_new w' a) := by
  unfold ct_new
  split
  · have := h
    obtain ⟨h1, h2, h3, h4, h5⟩ := this
    rw [← h1, ← h2]
    exact vm_like_up h _ hw hw
  · exact h
theorem ct_qok_new {w : vm_W} (h : vm_qok w) (a : Nat) : vm_qok (ct_new w a) := by
  unfold ct_new
  split
  · exact vm_qok_up h (fun n g z => by cases z)
  · exact h
theorem ct_q : vm_qok ct_w2 := by
  have q0 : vm_qok ct_w0 := fun i n g h => by cases h
  have q1 : vm_qok ct_w1 := vm_qok_run _ _ _ _ _ _ _ _ _ (ct_qok_new q0 9) ct_o1
  exact vm_qok_run _ _ _ _ _ _ _ _ _ (ct_qok_new q1 10) ct_o2
theorem cell_of (X : vX) (w : vm_W) (hq : vm_qok w) (i : Nat) (hi : i < 113) (h : xc_of w i = true) : w.2.2 i = vc_c X (xs_of w) i := by
  unfold xc_of at h
  unfold vc_c
  rw [if_neg (ly_ne hi)]
  split at h
  · rename_i ci fs c vs h1 h2
    rw [Bool.and_eq_true, beq_iff_eq] at h
    have e : ly_f (xs_of w) i 0 fs = vs := by
      refine ct_f_ok (xs_of w) i fs vs 0 h.2 (fun j x hj => ?_)
      rw [Nat.zero_add]
      show iI (xs_F (w.2.2 i) j) = x
      rw [h2]
      show iI (match vs[j]? with
        | some (.int x) => x.toInt
        | _ => 0) = x
      rw [hj]
      exact iI_of x
    rw [h1, h2]
    show Sum.inr (Sum.inr (c, vs)) = Sum.inr (Sum.inr (ci, ly_f (xs_of w) i 0 fs))
    rw [h.1, e]
  · rename_i n _ m f h1 h2
    rw [beq_iff_eq] at h
    have e : (fun j : Nat => iI (vA (xs_of w) i (j : Int))) = f := by
      funext j
      show iI (xs_A (w.2.2 i) (j : Int)) = f j
      rw [h2]
      show iI (f ((j : Int)).toNat).toInt = f j
      rw [show ((j : Int)).toNat = j by omega]
      exact iI_of _
    rw [h1, h2]
    show Sum.inl (m, f) = Sum.inl (n, fun j : Nat => iI (vA (xs_of w) i (j : Int)))
    rw [e, h]
  · rename_i n fs m g h1 h2
    rw [Bool.and_eq_true, Bool.and_eq_true, beq_iff_eq, beq_iff_eq] at h
    obtain ⟨⟨e1, e2⟩, e3⟩ := h
    subst e1
    have e : (fun j : Nat => (fs[j]?).getD none) = g := by
      funext j
      by_cases hj : j < n
      · exact eq_of_beq (List.all_eq_true.mp e3 j (List.mem_range.mpr hj))
      · rw [hq i n g h2 j (Nat.le_of_not_lt hj), List.getElem?_eq_none (by omega)]; rfl
    rw [h1, h2]
    show Sum.inr (Sum.inl (n, g)) = Sum.inr (Sum.inl (n, fun j : Nat => (fs[j]?).getD none))
    rw [e]
  · cases h
theorem ct_cell (X : vX) (i : Nat) (hi : i < 113) : ct_w2.2.2 i = vc_c X ct_s i := cell_of X ct_w2 ct_q i hi (ct_all_of (ct_g 5 rfl) i hi)
theorem vm_run_st {d mid pc : Nat} {ls ls' : vm_L} {st st' : List Value} {w w' : vm_W} {pc' : Nat} {r : vm_M} {q : vm_I} {R : Option Value × vm_W} (hp : vm_P mid pc = some (r, q)) (h1 : vm_ret r q st = none) (h2 : vm_call q st w = none) (h3 : vm_step d r q ls st w = some (pc', ls', st', w')) (k : ∃ F, vm_run F d mid pc' ls' st' w' = some R) : ∃ F, vm_run F d mid pc ls st w = some R := by
  obtain ⟨g1, g2⟩ := vm_P_i hp
  obtain ⟨F, k1⟩ := k
  refine ⟨F + 1, ?_⟩
  rw [vm_run, g1]
  dsimp only
  rw [g2]
  dsimp only
  rw [h1]
  dsimp only
  rw [h2]
  dsimp only
  rw [h3]
  exact k1
theorem vm_run_ca {d mid pc : Nat} {ls : vm_L} {st : List Value} {w w' : vm_W} {r r' : vm_M} {q : vm_I} {R : Option Value × vm_W} {as rest : List Value} {mid' F1 : Nat} {v : Option Value} (hp : vm_P mid pc = some (r, q)) (h1 : vm_ret r q st = none) (h2 : vm_call q st w = some (mid', as, rest)) (hm : mid' < 205) (hr' : vm_MT[mid']? = some r') (hl : (vm_args as).length ≤ r'.2.2.2.1) (h3 : vm_run F1 d mid' 0 (vm_ent r'.2.2.2.1 as) [] w = some (v, w')) (k : ∃ F, vm_run F (d + 1) mid (pc + 3) ls (v.toList ++ rest) w' = some R) : ∃ F, vm_run F (d + 1) mid pc ls st w = some R := by
  obtain ⟨g1, g2⟩ := vm_P_i hp
  obtain ⟨F, k1⟩ := k
  refine ⟨max F1 F + 1, ?_⟩
  rw [vm_run, g1]
  dsimp only
  rw [g2]
  dsimp only
  rw [h1]
  dsimp only
  rw [h2]
  dsimp only
  rw [if_pos hm, hr']
  dsimp only
  rw [if_pos hl, vm_run_le h3 (Nat.le_max_left _ _)]
  exact vm_run_le k1 (Nat.le_max_right _ _)
theorem vm_new_eq {pc a : Nat} {ls : vm_L} {st : List Value} {w : vm_W} (ha : ∃ x, vwCl[a]? = some x) (hw : w.1 < 1000) : vm_new a pc ls st w = some (pc + 3, ls, .ref w.1 :: st, ct_new w a) := by
  obtain ⟨⟨C, T, N⟩, ha⟩ := ha
  unfold vm_new ct_new
  rw [ha]
  exact if_pos hw
