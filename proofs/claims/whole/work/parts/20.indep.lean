/-! a run that never reads the script runs alike beside any script; cells not made yet stay as they are -/
def vm_rw (w' : vm_W) (x : Nat × vm_L × List Value × vm_W) : Nat × vm_L × List Value × vm_W := (x.1, x.2.1, x.2.2.1, w')
def vm_cell (i : Instr) : Bool := match i with
  | .getfield _ => true
  | .putfield _ => true
  | .iaload => true
  | .iastore => true
  | .aaload => true
  | .aastore => true
  | .arraylength => true
  | .newarray _ => true
  | .anewarray _ => true
  | .new _ => true
  | _ => false
set_option maxHeartbeats 4000000 in
theorem vm_step_blind {d : Nat} {r : vm_M} {q : vm_I} {ls : vm_L} {st : List Value} (w w' : vm_W) (h : vm_cell q.2.1 = false) : vm_step d r q ls st w' = (vm_step d r q ls st w).map (vm_rw w') := by
  obtain ⟨pc, i, len, a, b, cn⟩ := q
  cases i
  all_goals first
    | rfl
    | (exact absurd h (by show ¬ true = false; decide))
    | (simp only [vm_step]; (try unfold vm_push); (try unfold vm_bin); (try unfold vm_lbin); (try unfold vm_sti); (try unfold vm_sta); (try unfold vm_stl); (try unfold vm_iinc); (try unfold vm_if0); (try unfold vm_if2); (try unfold vm_ifn); (try unfold vm_tab); (try unfold vm_lku); (try unfold vm_jmp); (try unfold vm_lc); (try unfold vm_dup); (try unfold vm_dup2); (try unfold vm_pop); (try unfold vm_i2l); (try unfold vm_l2i); (try unfold vm_oin); (try unfold vm_sln); (try unfold vm_sch); (repeat' split) <;> rfl)
theorem vm_step_same {d : Nat} {r : vm_M} {q : vm_I} {ls ls' : vm_L} {st st' : List Value} {w w1 : vm_W} {pc' : Nat} (h : vm_cell q.2.1 = false) (hs : vm_step d r q ls st w = some (pc', ls', st', w1)) : w1 = w := by
  have e := vm_step_blind (d := d) (r := r) (q := q) (ls := ls) (st := st) w w h
  rw [hs] at e
  injection e with e
  injection e with e1 e
  injection e with e2 e
  injection e with e3 e4
/-- alike but for the script: w has none -/
def vm_like (w w' : vm_W) : Prop := w.1 = w'.1 ∧ w.2.1 = w'.2.1 ∧ w.1 ≤ 1000 ∧ (∀ i, i ≠ vm_scr → w.2.2 i = w'.2.2 i) ∧ w.2.2 vm_scr = .inr (.inr (100, []))
theorem vm_like_up {w w' : vm_W} (h : vm_like w w') {i n k : Nat} (e : vm_E) (hi : i < 1000) (hn : n ≤ 1000) : vm_like (n, k, vm_up w.2.2 i e) (n, k, vm_up w'.2.2 i e) := by
  obtain ⟨h1, h2, h3, h4, h5⟩ := h
  refine ⟨rfl, rfl, hn, fun j hj => ?_, ?_⟩
  · show vm_up w.2.2 i e j = vm_up w'.2.2 i e j
    unfold vm_up
    split
    · rfl
    · exact h4 j hj
  · show vm_up w.2.2 i e vm_scr = _
    unfold vm_up
    rw [if_neg (by show ¬ 1000000 = i; omega)]
    exact h5
theorem vm_like_at {w w' : vm_W} (h : vm_like w w') {i : Nat} (hi : i < w.1) : w'.2.2 i = w.2.2 i := (h.2.2.2.1 i (by have := h.2.2.1; show i ≠ 1000000; omega)).symm
theorem vm_like_step {d : Nat} {r : vm_M} {q : vm_I} {ls ls' : vm_L} {st st' : List Value} {w w' w1 : vm_W} {pc' : Nat} (hw : vm_like w w') (hs : vm_step d r q ls st w = some (pc', ls', st', w1)) :
    ∃ w1', vm_step d r q ls st w' = some (pc', ls', st', w1') ∧ vm_like w1 w1' ∧ ∀ i, w1'.1 ≤ i → w1'.2.2 i = w'.2.2 i := by
  by_cases hc : vm_cell q.2.1 = false
  · have e1 := vm_step_same hc hs
    subst e1
    refine ⟨w', ?_, hw, fun _ _ => rfl⟩
    rw [vm_step_blind w1 w' hc, hs]
    rfl
  · obtain ⟨pc, i, len, a, b, cn⟩ := q
    have hw' := hw
    obtain ⟨h1, h2, h3, h4, h5⟩ := hw'
    cases i
    case getfield x =>
      obtain ⟨i, st0, fs, v, rfl, e1, e2, e3, rfl, rfl, rfl, rfl⟩ := vm_get_i (show vm_get a b pc ls st w = some (pc', ls', st', w1) from hs)
      refine ⟨w', ?_, hw, fun _ _ => rfl⟩
      show vm_get a b pc ls (.ref i :: st0) w' = _
      unfold vm_get
      dsimp only
      rw [if_pos (by rw [← h1]; exact e1), vm_like_at hw e1, e2]
      dsimp only
      rw [if_pos rfl, e3]
    case putfield x =>
      obtain ⟨i, st0, fs, v, rfl, e1, e2, e3, e4, e5, rfl, rfl, rfl, rfl⟩ := vm_put_i (show vm_put r a b pc ls st w = some (pc', ls', st', w1) from hs)
      have hi : i < 1000 := Nat.lt_of_lt_of_le e1 h3
      refine ⟨(w'.1, w'.2.1, vm_up w'.2.2 i (.inr (.inr (a, fs.set b v)))), ?_, by rw [← h1, ← h2]; exact vm_like_up hw _ hi h3, fun j hj => ?_⟩
      · show vm_put r a b pc ls (v :: .ref i :: st0) w' = _
        unfold vm_put
        dsimp only
        rw [if_pos (by rw [← h1]; exact e1), vm_like_at hw e1, e2]
        dsimp only
        rw [if_pos ⟨rfl, e3, e4, e5⟩]
      · show vm_up w'.2.2 i _ j = _
        unfold vm_up
        rw [if_neg (fun z : j = i => absurd e1 (Nat.not_lt.mpr (show w.1 ≤ i from by rw [h1, ← z]; exact hj)))]
    case iaload =>
      obtain ⟨i, j, st0, n, f, rfl, e1, e2, e3, rfl, rfl, rfl, rfl⟩ := vm_ald_i (show vm_ald pc ls st w = some (pc', ls', st', w1) from hs)
      have e1 : i < w.1 := e1.elim id (fun z => by rw [z, h5] at e2; cases e2)
      refine ⟨w', ?_, hw, fun _ _ => rfl⟩
      show vm_ald pc ls (.int j :: .ref i :: st0) w' = _
      unfold vm_ald
      dsimp only
      rw [if_pos (Or.inl (by rw [← h1]; exact e1)), vm_like_at hw e1, e2]
      dsimp only
      rw [if_neg e3]
    case iastore =>
      obtain ⟨i, j, x, st0, n, f, rfl, e1, e2, e3, rfl, rfl, rfl, rfl⟩ := vm_ast_i (show vm_ast pc ls st w = some (pc', ls', st', w1) from hs)
      have hi : i < 1000 := Nat.lt_of_lt_of_le e1 h3
      refine ⟨(w'.1, w'.2.1, vm_up w'.2.2 i (.inl (n, upd f j.toNatClampNeg x))), ?_, by rw [← h1, ← h2]; exact vm_like_up hw _ hi h3, fun j hj => ?_⟩
      · show vm_ast pc ls (.int x :: .int j :: .ref i :: st0) w' = _
        unfold vm_ast
        dsimp only
        rw [if_pos (by rw [← h1]; exact e1), vm_like_at hw e1, e2]
        dsimp only
        rw [if_neg e3]
      · show vm_up w'.2.2 i _ j = _
        unfold vm_up
        rw [if_neg (fun z : j = i => absurd e1 (Nat.not_lt.mpr (show w.1 ≤ i from by rw [h1, ← z]; exact hj)))]
    case aaload =>
      obtain ⟨i, j, st0, n, g, k, rfl, e1, e2, e3, e4, rfl, rfl, rfl, rfl⟩ := vm_qld_i (show vm_qld pc ls st w = some (pc', ls', st', w1) from hs)
      refine ⟨w', ?_, hw, fun _ _ => rfl⟩
      show vm_qld pc ls (.int j :: .ref i :: st0) w' = _
      unfold vm_qld
      dsimp only
      rw [if_pos (by rw [← h1]; exact e1), vm_like_at hw e1, e2]
      dsimp only
      rw [if_neg e3, e4]
    case aastore =>
      obtain ⟨i, j, v, st0, n, g, fs, rfl, e1, e2, e3, e4, e5, rfl, rfl, rfl, rfl⟩ := vm_qst_i (show vm_qst pc ls st w = some (pc', ls', st', w1) from hs)
      have hi : i < 1000 := Nat.lt_of_lt_of_le e1 h3
      refine ⟨(w'.1, w'.2.1, vm_up w'.2.2 i (.inr (.inl (n, va_up g j.toNatClampNeg (some v))))), ?_, by rw [← h1, ← h2]; exact vm_like_up hw _ hi h3, fun j hj => ?_⟩
      · show vm_qst pc ls (.ref v :: .int j :: .ref i :: st0) w' = _
        unfold vm_qst
        dsimp only
        rw [if_pos ⟨by rw [← h1]; exact e1, by rw [← h1]; exact e2, by rw [vm_like_at hw e2, e3]; rfl⟩, vm_like_at hw e1, e4]
        dsimp only
        rw [if_neg e5]
      · show vm_up w'.2.2 i _ j = _
        unfold vm_up
        rw [if_neg (fun z : j = i => absurd e1 (Nat.not_lt.mpr (show w.1 ≤ i from by rw [h1, ← z]; exact hj)))]
    case arraylength =>
      obtain ⟨i, n, st0, rfl, e1, rfl, rfl, rfl, rfl⟩ := vm_alen_i (show vm_alen pc ls st w = some (pc', ls', st', w1) from hs)
      refine ⟨w', ?_, hw, fun _ _ => rfl⟩
      show vm_alen pc ls (.ref i :: st0) w' = _
      unfold vm_alen
      dsimp only
      rcases e1 with ⟨f, e2, e1⟩ | ⟨g, e2, e1⟩
      · have e1 : i < w.1 := e1.elim id (fun z => by rw [z, h5] at e2; cases e2)
        rw [if_pos (Or.inl (by rw [← h1]; exact e1)), vm_like_at hw e1, e2]
      · rw [if_pos (Or.inl (by rw [← h1]; exact e1)), vm_like_at hw e1, e2]
        dsimp only
        rw [if_pos (by rw [← h1]; exact e1)]
    case newarray t =>
      obtain ⟨n, st0, rfl, e1, e2, e3, rfl, rfl, rfl, rfl⟩ := vm_newi_i (show vm_newi pc ls st w = some (pc', ls', st', w1) from hs)
      refine ⟨(w'.1 + 1, w'.2.1 + n.toNatClampNeg, vm_up w'.2.2 w'.1 (.inl (n.toNatClampNeg, fun _ => 0))), ?_, by rw [← h1, ← h2]; exact vm_like_up hw _ e3 e3, fun j hj => ?_⟩
      · show vm_newi pc ls (.int n :: st0) w' = _
        unfold vm_newi
        dsimp only
        rw [if_pos ⟨e1, e2, by rw [← h1]; exact e3⟩, h1]
      · show vm_up w'.2.2 w'.1 _ j = _
        unfold vm_up
        rw [if_neg (by have hj : w'.1 + 1 ≤ j := hj; omega)]
    case anewarray x =>
      obtain ⟨n, st0, rfl, e1, e2, e3, rfl, rfl, rfl, rfl⟩ := vm_newq_i (show vm_newq pc ls st w = some (pc', ls', st', w1) from hs)
      refine ⟨(w'.1 + 1, w'.2.1 + n.toNatClampNeg, vm_up w'.2.2 w'.1 (.inr (.inl (n.toNatClampNeg, fun _ => none)))), ?_, by rw [← h1, ← h2]; exact vm_like_up hw _ e3 e3, fun j hj => ?_⟩
      · show vm_newq pc ls (.int n :: st0) w' = _
        unfold vm_newq
        dsimp only
        rw [if_pos ⟨e1, e2, by rw [← h1]; exact e3⟩, h1]
      · show vm_up w'.2.2 w'.1 _ j = _
        unfold vm_up
        rw [if_neg (by have hj : w'.1 + 1 ≤ j := hj; omega)]
    case new x =>
      obtain ⟨Cn, T, N, e1, e3, rfl, rfl, rfl, rfl⟩ := vm_new_i (show vm_new a pc ls st w = some (pc', ls', st', w1) from hs)
      refine ⟨(w'.1 + 1, w'.2.1 + N, vm_up w'.2.2 w'.1 (.inr (.inr (a, (List.range N).map (fun j => defaultValue (vm_ty a j)))))), ?_, by rw [← h1, ← h2]; exact vm_like_up hw _ e3 e3, fun j hj => ?_⟩
      · show vm_new a pc ls st w' = _
        unfold vm_new
        rw [e1]
        dsimp only
        rw [if_pos (by rw [← h1]; exact e3), h1]
      · show vm_up w'.2.2 w'.1 _ j = _
        unfold vm_up
        rw [if_neg (by have hj : w'.1 + 1 ≤ j := hj; omega)]
    all_goals exact absurd rfl hc
theorem vm_like_call {q : vm_I} {st : List Value} {w w' : vm_W} (hw : vm_like w w') {x : Nat × List Value × List Value} (h : vm_call q st w = some x) : vm_call q st w' = some x := by
  obtain ⟨mid', as, rest⟩ := x
  obtain ⟨pc, i, len, a, b, cn⟩ := q
  cases i
  case invokevirtual y =>
    rcases vm_call_i h with ⟨x, i, as', fs, e1, e2, rfl, rfl, e3, e4, e5, e6, rfl⟩ | ⟨x, e1, _⟩ | ⟨x, i, as', e1, _⟩
    · have e2 : a = 0 := e2
      have hst : (as'.reverse ++ Value.ref i :: rest)[cn % 100]? = some (.ref i) := by
        have e3 : as'.length = cn % 100 := e3
        rw [← e3, ← List.length_reverse, List.getElem?_append_right (Nat.le_refl _), Nat.sub_self]; rfl
      simp only [vm_call] at h ⊢
      rw [if_pos e2, hst] at h ⊢
      dsimp only at h ⊢
      rw [if_pos e4, show w.2.2 i = _ from e5] at h
      rw [if_pos (by rw [← hw.1]; exact e4), vm_like_at hw e4, show w.2.2 i = _ from e5]
      exact h
    · cases e1
    · cases e1
  all_goals exact h
theorem vm_step_nocall {d : Nat} {r : vm_M} {q : vm_I} {ls : vm_L} {st : List Value} {w : vm_W} {x : Nat × vm_L × List Value × vm_W} (w' : vm_W) (h : vm_step d r q ls st w = some x) : vm_call q st w' = none := by
  obtain ⟨pc, i, len, a, b, cn⟩ := q
  cases i
  case invokevirtual y =>
    have h : (if a = 6 then vm_sln d pc ls st w else if a = 7 then vm_sch d pc ls st w else none) = some x := h
    simp only [vm_call]
    rw [if_neg]
    intro ha
    rw [if_neg (by omega), if_neg (by omega)] at h
    cases h
  case invokespecial y =>
    have h : (if a = 5 then vm_oin d pc ls st w else none) = some x := h
    simp only [vm_call]
    rw [if_neg]
    intro ha
    rw [if_neg (by omega)] at h
    cases h
  case invokestatic y => cases h
  all_goals rfl
theorem vm_like_run : ∀ (F d mid pc : Nat) (ls : vm_L) (st : List Value) (w w' : vm_W) (v : Option Value) (w1 : vm_W), vm_like w w' → vm_run F d mid pc ls st w = some (v, w1) →
    ∃ w1', vm_run F d mid pc ls st w' = some (v, w1') ∧ vm_like w1 w1' ∧ ∀ i, w1'.1 ≤ i → w1'.2.2 i = w'.2.2 i := by
  intro F
  induction F with
  | zero => intro d mid pc ls st w w' v w1 hw h; cases h
  | succ F ih =>
    intro d mid pc ls st w w' v w1 hw h
    rw [vm_run] at h
    rw [vm_run]
    cases h1 : vm_MT[mid]? with
    | none => rw [h1] at h; cases h
    | some r =>
      rw [h1] at h
      dsimp only at h ⊢
      cases h2 : vm_find r.2.2.2.2.2 pc with
      | none => rw [h2] at h; cases h
      | some q =>
        rw [h2] at h
        dsimp only at h ⊢
        cases h3 : vm_ret r q st with
        | some v' =>
          rw [h3] at h
          cases h
          exact ⟨w', rfl, hw, fun _ _ => rfl⟩
        | none =>
          rw [h3] at h
          dsimp only at h ⊢
          cases h4 : vm_call q st w with
          | none =>
            rw [h4] at h
            dsimp only at h
            cases h5 : vm_step d r q ls st w with
            | none => rw [h5] at h; cases h
            | some x =>
              rw [h5] at h
              obtain ⟨pc', ls', st', w2⟩ := x
              rw [vm_step_nocall w' h5]
              dsimp only at h ⊢
              obtain ⟨w2', g1, g2, g3⟩ := vm_like_step hw h5
              rw [g1]
              dsimp only
              obtain ⟨w1', k1, k2, k3⟩ := ih _ _ _ _ _ _ _ _ _ g2 h
              refine ⟨w1', k1, k2, fun i hi => (k3 i hi).trans (g3 i ?_)⟩
              exact Nat.le_trans (vm_run_mono _ _ _ _ _ _ _ _ _ k1).1 hi
          | some x =>
            rw [h4] at h
            rw [vm_like_call hw h4]
            obtain ⟨mid', as, rest⟩ := x
            dsimp only at h ⊢
            cases d with
            | zero => cases h
            | succ d' =>
              dsimp only at h ⊢
              by_cases hm : mid' < 205
              · rw [if_pos hm] at h ⊢
                cases h6 : vm_MT[mid']? with
                | none => rw [h6] at h; cases h
                | some r' =>
                  rw [h6] at h
                  dsimp only at h ⊢
                  by_cases hl : (vm_args as).length ≤ r'.2.2.2.1
                  · rw [if_pos hl] at h ⊢
                    cases h7 : vm_run F d' mid' 0 (vm_ent r'.2.2.2.1 as) [] w with
                    | none => rw [h7] at h; cases h
                    | some y =>
                      rw [h7] at h
                      obtain ⟨v2, w2⟩ := y
                      dsimp only at h
                      obtain ⟨w2', g1, g2, g3⟩ := ih _ _ _ _ _ _ _ _ _ hw h7
                      rw [g1]
                      dsimp only
                      obtain ⟨w1', k1, k2, k3⟩ := ih _ _ _ _ _ _ _ _ _ g2 h
                      refine ⟨w1', k1, k2, fun i hi => (k3 i hi).trans (g3 i ?_)⟩
                      exact Nat.le_trans (vm_run_mono _ _ _ _ _ _ _ _ _ k1).1 hi
                  · rw [if_neg hl] at h; cases h
              · rw [if_neg hm] at h; cases h
