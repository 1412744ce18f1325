/-! what a run comes to does not hang on how many frames may stand above -/
theorem vm_oin_d {d pc : Nat} {ls : vm_L} {st : List Value} {w : vm_W} {x : Nat × vm_L × List Value × vm_W} (h : vm_oin d pc ls st w = some x) : vm_oin (d + 1) pc ls st w = some x := by
  unfold vm_oin at h ⊢
  split at h
  · skip
    split at h
    · rename_i c; rw [if_pos ⟨by omega, c.2⟩]; exact h
    · cases h
  · cases h
theorem vm_sln_d {d pc : Nat} {ls : vm_L} {st : List Value} {w : vm_W} {x : Nat × vm_L × List Value × vm_W} (h : vm_sln d pc ls st w = some x) : vm_sln (d + 1) pc ls st w = some x := by
  unfold vm_sln at h ⊢
  split at h
  · skip
    split at h
    · rename_i c; rw [if_pos ⟨c.1, by omega, c.2.2⟩]; exact h
    · cases h
  · cases h
theorem vm_sch_d {d pc : Nat} {ls : vm_L} {st : List Value} {w : vm_W} {x : Nat × vm_L × List Value × vm_W} (h : vm_sch d pc ls st w = some x) : vm_sch (d + 1) pc ls st w = some x := by
  unfold vm_sch at h ⊢
  split at h
  · skip
    split at h
    · rename_i c; rw [if_pos ⟨c.1, by omega, c.2.2⟩]; exact h
    · cases h
  · cases h
theorem vm_step_d {d : Nat} {r : vm_M} {q : vm_I} {ls : vm_L} {st : List Value} {w : vm_W} {x : Nat × vm_L × List Value × vm_W} (h : vm_step d r q ls st w = some x) : vm_step (d + 1) r q ls st w = some x := by
  obtain ⟨pc, ins, ln, a, b, n⟩ := q
  cases ins <;> first
    | exact h
    | (rename_i y
       have h : (if a = 5 then vm_oin d pc ls st w else none) = some x := h
       show (if a = 5 then vm_oin (d + 1) pc ls st w else none) = some x
       split at h
       · rename_i c; rw [if_pos c]; exact vm_oin_d h
       · cases h)
    | (rename_i y
       have h : (if a = 6 then vm_sln d pc ls st w else if a = 7 then vm_sch d pc ls st w else none) = some x := h
       show (if a = 6 then vm_sln (d + 1) pc ls st w else if a = 7 then vm_sch (d + 1) pc ls st w else none) = some x
       split at h
       · rename_i c; rw [if_pos c]; exact vm_sln_d h
       · rename_i c
         rw [if_neg c]
         split at h
         · rename_i c2; rw [if_pos c2]; exact vm_sch_d h
         · cases h)
theorem vm_run_d : ∀ (F d mid pc : Nat) (ls : vm_L) (st : List Value) (w : vm_W) (R : Option Value × vm_W), vm_run F d mid pc ls st w = some R → vm_run F (d + 1) mid pc ls st w = some R := by
  intro F
  induction F with
  | zero => intro d mid pc ls st w R h; cases h
  | succ F ih =>
    intro d mid pc ls st w R h
    rw [vm_run] at h
    rw [vm_run]
    cases h1 : vm_MT[mid]? with
    | none => rw [h1] at h; cases h
    | some r =>
      rw [h1] at h
      dsimp only at h ⊢
      cases h2 : vm_find r.2.2.2.2.2 pc with
      | none => rw [h2] at h; cases h
      | some q =>
        rw [h2] at h
        dsimp only at h ⊢
        cases h3 : vm_ret r q st with
        | some v => rw [h3] at h; exact h
        | none =>
          rw [h3] at h
          dsimp only at h ⊢
          cases h4 : vm_call q st w with
          | none =>
            rw [h4] at h
            dsimp only at h ⊢
            cases h5 : vm_step d r q ls st w with
            | none => rw [h5] at h; cases h
            | some x =>
              rw [h5] at h
              rw [vm_step_d h5]
              exact ih _ _ _ _ _ _ _ h
          | some x =>
            rw [h4] at h
            obtain ⟨mid', as, rest⟩ := x
            dsimp only at h ⊢
            cases d with
            | zero => cases h
            | succ d' =>
              dsimp only at h ⊢
              by_cases hm : mid' < 205
              · rw [if_pos hm] at h ⊢
                cases h6 : vm_MT[mid']? with
                | none => rw [h6] at h; cases h
                | some r' =>
                  rw [h6] at h
                  dsimp only at h ⊢
                  by_cases hl : (vm_args as).length ≤ r'.2.2.2.1
                  · rw [if_pos hl] at h ⊢
                    cases h7 : vm_run F d' mid' 0 (vm_ent r'.2.2.2.1 as) [] w with
                    | none => rw [h7] at h; cases h
                    | some y =>
                      rw [h7] at h
                      rw [ih _ _ _ _ _ _ _ h7]
                      exact ih _ _ _ _ _ _ _ h
                  · rw [if_neg hl] at h; cases h
              · rw [if_neg hm] at h; cases h
theorem vm_run_dle {F d d' mid pc : Nat} {ls : vm_L} {st : List Value} {w : vm_W} {R : Option Value × vm_W} (h : vm_run F d mid pc ls st w = some R) (hd : d ≤ d') : vm_run F d' mid pc ls st w = some R := by
  induction hd with
  | refl => exact h
  | step _ ih => exact vm_run_d _ _ _ _ _ _ _ _ ih
theorem Ok.ex {X : vX} {D mid : Nat} {as : List Value} {s : St} {Q : Option Value → St → Prop} (h : Ok X D mid as s Q) : ∃ v t, Q v t ∧ Ok X D mid as s (Is v t) := by
  obtain ⟨r, h1, h2, F, v, t, h3, h4⟩ := h D (Nat.le_refl _)
  exact ⟨v, t, h4, fun d hd => ⟨r, h1, h2, F, v, t, vm_run_dle h3 hd, rfl, rfl⟩⟩
/-- one end of a call that is told by what it keeps -/
theorem OkI.ex {X : vX} {D mid : Nat} {as : List Value} {s : St} {P : Int → St → Prop} (h : OkI X D mid as s P) : ∃ z t, P z t ∧ OkI X D mid as s (Is1 z t) := by
  obtain ⟨v, t, ⟨z, e, p⟩, k⟩ := Ok.ex h
  exact ⟨z, t, p, Ok.imp k (fun v' t' q => ⟨z, q.1.trans e, rfl, q.2⟩)⟩
theorem OkV.ex {X : vX} {D mid : Nat} {as : List Value} {s : St} {P : St → Prop} (h : OkV X D mid as s P) : ∃ t, P t ∧ OkV X D mid as s (Is0 t) := by
  obtain ⟨v, t, ⟨e, p⟩, k⟩ := Ok.ex h
  exact ⟨t, p, Ok.imp k (fun v' t' q => ⟨q.1.trans e, q.2⟩)⟩
theorem Both.of {X : vX} {K : Int} {s : St} {c m D D' : Nat} {as : List Value} {P : Int → St → Prop} {P' : Int → St → Int → St → Prop} (h1 : OkI X D c (.ref 0 :: as) s P) (hD : D ≤ 100) (hD' : D' ≤ 100) (h2 : ∀ z t, P z t → OkI X D' m (.ref 95 :: as) t (P' z t)) (h3 : ∀ z t z' t', P z t → P' z t z' t' → z' = z ∧ rg z ∧ Rel (K + 1) t') : Both X K s c m as := by
  obtain ⟨z, t, p, k⟩ := h1.ex
  obtain ⟨z', t', p', k'⟩ := (h2 z t p).ex
  obtain ⟨e, hz, hr⟩ := h3 z t z' t' p p'
  subst e
  exact ⟨z', t, t', hz, k.more hD, k'.more hD', hr⟩
