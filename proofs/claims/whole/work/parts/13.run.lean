/-! A RUN OF THE PURE MACHINE IS A RUN OF THE REAL ONE -/
theorem vm_find_in {l : List vm_I} : ∀ {pc : Nat} {q : vm_I}, vm_find l pc = some q → q ∈ l ∧ q.1 = pc := by
  induction l with
  | nil => intro pc q h; cases h
  | cons a t ih =>
    intro pc q h
    unfold vm_find at h
    split at h
    · rename_i hp
      cases h
      exact ⟨List.mem_cons_self, hp⟩
    · obtain ⟨h1, h2⟩ := ih h
      exact ⟨List.mem_cons_of_mem _ h1, h2⟩
theorem vm_take_rev {st : List Value} {n : Nat} {v : Value} (h : st[n]? = some v) : (st.take (n + 1)).reverse = v :: (st.take n).reverse ∧ st = ((st.take n).reverse).reverse ++ v :: st.drop (n + 1) ∧ ((st.take n).reverse).length = n := by
  have hl : n < st.length := (List.getElem?_eq_some_iff.mp h).1
  have hv : st[n] = v := (List.getElem?_eq_some_iff.mp h).2
  refine ⟨?_, ?_, ?_⟩
  · rw [List.take_succ_eq_append_getElem hl, List.reverse_append, hv]; rfl
  · rw [List.reverse_reverse]
    have := List.take_append_drop n st
    rw [List.drop_eq_getElem_cons hl, hv] at this
    exact this.symm
  · rw [List.length_reverse, List.length_take]; omega
theorem vm_call_i {q : vm_I} {st : List Value} {w : vm_W} {mid' : Nat} {as rest : List Value} (h : vm_call q st w = some (mid', as, rest)) :
    (∃ x i as' fs, q.2.1 = .invokevirtual x ∧ q.2.2.2.1 = 0 ∧ as = .ref i :: as' ∧ st = as'.reverse ++ .ref i :: rest ∧ as'.length = q.2.2.2.2.2 % 100 ∧ i < w.1 ∧ w.2.2 i = .inr (.inr (q.2.2.2.2.2 / 100, fs)) ∧ (rest.map fun v => v.category).sum ≤ 8 ∧ mid' = q.2.2.2.2.1) ∨
    (∃ x, q.2.1 = .invokestatic x ∧ st = as.reverse ++ rest ∧ as.length = q.2.2.2.2.2 % 100 ∧ (rest.map fun v => v.category).sum ≤ 8 ∧ mid' = q.2.2.2.2.1) ∨
    (∃ x i as', q.2.1 = .invokespecial x ∧ (q.2.2.2.1 = 2 ∨ q.2.2.2.1 = 4) ∧ as = .ref i :: as' ∧ st = as'.reverse ++ .ref i :: rest ∧ as'.length = q.2.2.2.2.2 % 100 ∧ (rest.map fun v => v.category).sum ≤ 8 ∧ mid' = q.2.2.2.2.1) := by
  obtain ⟨pc, i, len, a, b, cn⟩ := q
  cases i
  case invokevirtual x =>
    have h : (if a = 0 then match st[cn % 100]? with
      | some (.ref i) => if i < w.1 then match w.2.2 i with
        | .inr (.inr (ci, _)) => if ci = cn / 100 ∧ ((st.drop (cn % 100 + 1)).map fun v => v.category).sum ≤ 8 then some (b, (st.take (cn % 100 + 1)).reverse, st.drop (cn % 100 + 1)) else none
        | _ => none
        else none
      | _ => none
      else none) = some (mid', as, rest) := h
    split at h
    · rename_i ha
      split at h
      · rename_i i hst
        split at h
        · rename_i hi
          split at h
          · rename_i ci fs he
            split at h
            · rename_i hc
              obtain ⟨rfl, hc⟩ := hc
              cases h
              obtain ⟨t1, t2, t3⟩ := vm_take_rev hst
              exact Or.inl ⟨x, i, _, fs, rfl, ha, t1, t2, t3, hi, he, hc, rfl⟩
            · cases h
          · cases h
        · cases h
      · cases h
    · cases h
  case invokestatic x =>
    have h : (if cn % 100 ≤ st.length ∧ ((st.drop (cn % 100)).map fun v => v.category).sum ≤ 8 then some (b, (st.take (cn % 100)).reverse, st.drop (cn % 100)) else none) = some (mid', as, rest) := h
    split at h
    · rename_i hc
      cases h
      exact Or.inr (Or.inl ⟨x, rfl, by rw [List.reverse_reverse, List.take_append_drop], by rw [List.length_reverse, List.length_take]; exact Nat.min_eq_left hc.1, hc.2, rfl⟩)
    · cases h
  case invokespecial x =>
    have h : (if a = 2 ∨ a = 4 then match st[cn % 100]? with
      | some (.ref _) => if ((st.drop (cn % 100 + 1)).map fun v => v.category).sum ≤ 8 then some (b, (st.take (cn % 100 + 1)).reverse, st.drop (cn % 100 + 1)) else none
      | _ => none
      else none) = some (mid', as, rest) := h
    split at h
    · rename_i ha
      split at h
      · rename_i i hst
        split at h
        · rename_i hc
          cases h
          obtain ⟨t1, t2, t3⟩ := vm_take_rev hst
          exact Or.inr (Or.inr ⟨x, i, _, rfl, ha, t1, t2, t3, hc, rfl⟩)
        · cases h
      · cases h
    · cases h
  all_goals exact absurd (show (none : Option (Nat × List Value × List Value)) = some (mid', as, rest) from h) (fun h => by cases h)
def vm_grow (w : vm_W) (o : Option (Nat × vm_L × List Value × vm_W)) : Prop := match o with
  | none => True
  | some x => w.1 ≤ x.2.2.2.1 ∧ w.2.1 ≤ x.2.2.2.2.1
theorem vm_grow_eq {w : vm_W} {pc : Nat} {ls : vm_L} {st : List Value} : vm_grow w (some (pc, ls, st, w)) := ⟨Nat.le_refl _, Nat.le_refl _⟩
theorem vm_step_mono {d : Nat} {r : vm_M} {q : vm_I} {ls ls' : vm_L} {st st' : List Value} {w w' : vm_W} {pc' : Nat} (h : vm_step d r q ls st w = some (pc', ls', st', w')) : w.1 ≤ w'.1 ∧ w.2.1 ≤ w'.2.1 := by
  have G : vm_grow w (vm_step d r q ls st w) := by
    obtain ⟨pc, i, len, a, b, cn⟩ := q
    clear h
    cases i
    all_goals first
      | exact trivial
      | exact vm_grow_eq
      | (simp only [vm_step]; (try unfold vm_push); (try unfold vm_bin); (try unfold vm_lbin); (try unfold vm_sti); (try unfold vm_sta); (try unfold vm_stl); (try unfold vm_iinc); (try unfold vm_if0); (try unfold vm_if2); (try unfold vm_ifn); (try unfold vm_tab); (try unfold vm_lku); (try unfold vm_jmp); (try unfold vm_lc); (try unfold vm_get); (try unfold vm_put); (try unfold vm_ald); (try unfold vm_ast); (try unfold vm_qld); (try unfold vm_qst); (try unfold vm_alen); (try unfold vm_newi); (try unfold vm_newq); (try unfold vm_new); (try unfold vm_dup); (try unfold vm_dup2); (try unfold vm_pop); (try unfold vm_i2l); (try unfold vm_l2i); (try unfold vm_oin); (try unfold vm_sln); (try unfold vm_sch); (repeat' split) <;> first | exact trivial | exact ⟨Nat.le_refl _, Nat.le_refl _⟩ | exact ⟨Nat.le_succ _, Nat.le_add_right _ _⟩)
  rw [h] at G
  exact G
theorem vm_run_mono : ∀ (F d mid pc : Nat) (ls : vm_L) (st : List Value) (w : vm_W) (v : Option Value) (wF : vm_W), vm_run F d mid pc ls st w = some (v, wF) → w.1 ≤ wF.1 ∧ w.2.1 ≤ wF.2.1 := by
  intro F
  induction F with
  | zero => intro d mid pc ls st w v wF h; cases h
  | succ F ih =>
    intro d mid pc ls st w v wF h
    rw [vm_run] at h
    split at h
    · cases h
    · split at h
      · cases h
      · split at h
        · cases h; exact ⟨Nat.le_refl _, Nat.le_refl _⟩
        · split at h
          · split at h
            · cases h
            · split at h
              · split at h
                · cases h
                · split at h
                  · split at h
                    · cases h
                    · rename_i h1
                      have a1 := ih _ _ _ _ _ _ _ _ h1
                      have a2 := ih _ _ _ _ _ _ _ _ h
                      exact ⟨Nat.le_trans a1.1 a2.1, Nat.le_trans a1.2 a2.2⟩
                  · cases h
              · cases h
          · split at h
            · cases h
            · rename_i h1
              have a1 := vm_step_mono h1
              have a2 := ih _ _ _ _ _ _ _ _ h
              exact ⟨Nat.le_trans a1.1 a2.1, Nat.le_trans a1.2 a2.2⟩
