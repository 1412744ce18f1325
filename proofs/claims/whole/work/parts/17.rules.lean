/-! THE PURE MACHINE OVER STATES: what a method does, rule by rule -/
theorem vm_run_fuel : ∀ (F d mid pc : Nat) (ls : vm_L) (st : List Value) (w : vm_W) (R : Option Value × vm_W), vm_run F d mid pc ls st w = some R → vm_run (F + 1) d mid pc ls st w = some R := by
  intro F
  induction F with
  | zero => intro d mid pc ls st w R h; cases h
  | succ F ih =>
    intro d mid pc ls st w R h
    rw [vm_run] at h
    rw [vm_run]
    cases h1 : vm_MT[mid]? with
    | none => rw [h1] at h; cases h
    | some r =>
      rw [h1] at h
      dsimp only at h ⊢
      cases h2 : vm_find r.2.2.2.2.2 pc with
      | none => rw [h2] at h; cases h
      | some q =>
        rw [h2] at h
        dsimp only at h ⊢
        cases h3 : vm_ret r q st with
        | some v => rw [h3] at h; exact h
        | none =>
          rw [h3] at h
          dsimp only at h ⊢
          cases h4 : vm_call q st w with
          | none =>
            rw [h4] at h
            dsimp only at h ⊢
            cases h5 : vm_step d r q ls st w with
            | none => rw [h5] at h; cases h
            | some x =>
              rw [h5] at h
              exact ih _ _ _ _ _ _ _ h
          | some x =>
            rw [h4] at h
            obtain ⟨mid', as, rest⟩ := x
            dsimp only at h ⊢
            cases d with
            | zero => cases h
            | succ d' =>
              dsimp only at h ⊢
              by_cases hm : mid' < 205
              · rw [if_pos hm] at h ⊢
                cases h6 : vm_MT[mid']? with
                | none => rw [h6] at h; cases h
                | some r' =>
                  rw [h6] at h
                  dsimp only at h ⊢
                  by_cases hl : (vm_args as).length ≤ r'.2.2.2.1
                  · rw [if_pos hl] at h ⊢
                    cases h7 : vm_run F d' mid' 0 (vm_ent r'.2.2.2.1 as) [] w with
                    | none => rw [h7] at h; cases h
                    | some y =>
                      rw [h7] at h
                      rw [ih _ _ _ _ _ _ _ h7]
                      exact ih _ _ _ _ _ _ _ h
                  · rw [if_neg hl] at h; cases h
              · rw [if_neg hm] at h; cases h
theorem vm_run_le {F F' d mid pc : Nat} {ls : vm_L} {st : List Value} {w : vm_W} {R : Option Value × vm_W} (h : vm_run F d mid pc ls st w = some R) (hF : F ≤ F') : vm_run F' d mid pc ls st w = some R := by
  induction hF with
  | refl => exact h
  | step _ ih => exact vm_run_fuel _ _ _ _ _ _ _ _ ih
def vm_P (mid pc : Nat) : Option (vm_M × vm_I) := match vm_MT[mid]? with
  | none => none
  | some r => match vm_find r.2.2.2.2.2 pc with
    | none => none
    | some q => some (r, q)
theorem vm_P_i {mid pc : Nat} {r : vm_M} {q : vm_I} (h : vm_P mid pc = some (r, q)) : vm_MT[mid]? = some r ∧ vm_find r.2.2.2.2.2 pc = some q := by
  unfold vm_P at h
  split at h
  · cases h
  · rename_i r' h1
    split at h
    · cases h
    · rename_i q' h2
      cases h
      exact ⟨h1, h2⟩
abbrev vX : Type := Nat × (Nat → Int32)
def Gs (X : vX) (d mid pc : Nat) (ls : vm_L) (st : List Value) (s : St) (Q : Option Value → St → Prop) : Prop := ∃ F v s', vm_run F d mid pc ls st (conc X s) = some (v, conc X s') ∧ Q v s'
def Ok (X : vX) (D mid : Nat) (as : List Value) (s : St) (Q : Option Value → St → Prop) : Prop := ∀ d, D ≤ d → ∃ r, vm_MT[mid]? = some r ∧ (vm_args as).length ≤ r.2.2.2.1 ∧ Gs X d mid 0 (vm_ent r.2.2.2.1 as) [] s Q
/-- one outcome alone -/
abbrev Is (v : Option Value) (t : St) : Option Value → St → Prop := fun v' t' => v' = v ∧ t' = t
theorem Ok.more {X : vX} {D D' mid : Nat} {as : List Value} {s : St} {Q : Option Value → St → Prop} (h : Ok X D mid as s Q) (hD : D ≤ D') : Ok X D' mid as s Q := fun d hd => h d (Nat.le_trans hD hd)
theorem Ok.imp {X : vX} {D mid : Nat} {as : List Value} {s : St} {Q Q' : Option Value → St → Prop} (h : Ok X D mid as s Q) (hq : ∀ v t, Q v t → Q' v t) : Ok X D mid as s Q' := fun d hd => by
  obtain ⟨r, h1, h2, F, v, t, h3, h4⟩ := h d hd
  exact ⟨r, h1, h2, F, v, t, h3, hq v t h4⟩
theorem Gs.imp {X : vX} {d mid pc : Nat} {ls : vm_L} {st : List Value} {s : St} {Q Q' : Option Value → St → Prop} (h : Gs X d mid pc ls st s Q) (hq : ∀ v t, Q v t → Q' v t) : Gs X d mid pc ls st s Q' := by
  obtain ⟨F, v, t, h3, h4⟩ := h
  exact ⟨F, v, t, h3, hq v t h4⟩
theorem Ok.of {X : vX} {D mid : Nat} {as : List Value} {s : St} {Q : Option Value → St → Prop} {r : vm_M} {ls : vm_L} (h1 : vm_MT[mid]? = some r) (h2 : (vm_args as).length ≤ r.2.2.2.1) (h3 : vm_ent r.2.2.2.1 as = ls) (h : ∀ d, D ≤ d → Gs X d mid 0 ls [] s Q) : Ok X D mid as s Q := fun d hd => ⟨r, h1, h2, by rw [h3]; exact h d hd⟩
section RULES
variable {X : vX} {d mid pc : Nat} {ls : vm_L} {st : List Value} {s : St} {Q : Option Value → St → Prop} {r : vm_M} {a1 a2 a3 ln : Nat}
theorem Gs_step {q : vm_I} {pc' : Nat} {ls' : vm_L} {st' : List Value} {s' : St} (hp : vm_P mid pc = some (r, q)) (h1 : vm_ret r q st = none) (h2 : vm_call q st (conc X s) = none) (h3 : vm_step d r q ls st (conc X s) = some (pc', ls', st', conc X s')) (k : Gs X d mid pc' ls' st' s' Q) : Gs X d mid pc ls st s Q := by
  obtain ⟨g1, g2⟩ := vm_P_i hp
  obtain ⟨F, v, t, k1, k2⟩ := k
  refine ⟨F + 1, v, t, ?_, k2⟩
  rw [vm_run, g1]
  dsimp only
  rw [g2]
  dsimp only
  rw [h1]
  dsimp only
  rw [h2]
  dsimp only
  rw [h3]
  exact k1
/-- a call -/
theorem Gs_call {q : vm_I} {as rest : List Value} {mid' D : Nat} {Q' : Option Value → St → Prop} (hp : vm_P mid pc = some (r, q)) (h1 : vm_ret r q st = none) (h2 : vm_call q st (conc X s) = some (mid', as, rest)) (hm : mid' < 205) (ok : Ok X D mid' as s Q') (hd : D + 1 ≤ d) (k : ∀ v s', Q' v s' → Gs X d mid (pc + 3) ls (v.toList ++ rest) s' Q) : Gs X d mid pc ls st s Q := by
  obtain ⟨g1, g2⟩ := vm_P_i hp
  obtain ⟨d', rfl⟩ : ∃ d', d = d' + 1 := ⟨d - 1, by omega⟩
  obtain ⟨r', k1, k2, F1, v1, t1, k3, k4⟩ := ok d' (by omega)
  obtain ⟨F2, v, t, k5, k6⟩ := k v1 t1 k4
  refine ⟨max F1 F2 + 1, v, t, ?_, k6⟩
  rw [vm_run, g1]
  dsimp only
  rw [g2]
  dsimp only
  rw [h1]
  dsimp only
  rw [h2]
  dsimp only
  rw [if_pos hm, k1]
  dsimp only
  rw [if_pos k2, vm_run_le k3 (Nat.le_max_left _ _)]
  exact vm_run_le k5 (Nat.le_max_right _ _)
theorem Gs_iret {x : Int32} (hp : vm_P mid pc = some (r, (pc, .ireturn, ln, a1, a2, a3))) (hr : r.2.2.2.2.1 = some .int) (h : Q (some (.int x)) s) : Gs X d mid pc ls [.int x] s Q := by
  obtain ⟨g1, g2⟩ := vm_P_i hp
  refine ⟨1, some (.int x), s, ?_, h⟩
  rw [vm_run, g1]
  dsimp only
  rw [g2]
  dsimp only
  rw [show vm_ret r (pc, Instr.ireturn, ln, a1, a2, a3) [.int x] = some (some (.int x)) by simp only [vm_ret]; rw [hr]]
theorem Gs_zret {x : Int32} (hp : vm_P mid pc = some (r, (pc, .ireturn, ln, a1, a2, a3))) (hr : r.2.2.2.2.1 = some .boolean) (hx : x = 0 ∨ x = 1) (h : Q (some (.int x)) s) : Gs X d mid pc ls [.int x] s Q := by
  obtain ⟨g1, g2⟩ := vm_P_i hp
  refine ⟨1, some (.int x), s, ?_, h⟩
  rw [vm_run, g1]
  dsimp only
  rw [g2]
  dsimp only
  rw [show vm_ret r (pc, Instr.ireturn, ln, a1, a2, a3) [.int x] = some (some (.int x)) by simp only [vm_ret]; rw [hr]; exact if_pos hx]
theorem Gs_aret {x n : Nat} {C : String} (hp : vm_P mid pc = some (r, (pc, .areturn, ln, a1, a2, a3))) (hr : r.2.2.2.2.1 = some (.object C)) (h : Q (some (.ref x)) s) : Gs X d mid pc ls [.ref x] s Q := by
  obtain ⟨g1, g2⟩ := vm_P_i hp
  refine ⟨1, some (.ref x), s, ?_, h⟩
  rw [vm_run, g1]
  dsimp only
  rw [g2]
  dsimp only
  rw [show vm_ret r (pc, Instr.areturn, ln, a1, a2, a3) [.ref x] = some (some (.ref x)) by simp only [vm_ret]; rw [hr]]
theorem Gs_vret (hp : vm_P mid pc = some (r, (pc, .return_, ln, a1, a2, a3))) (hr : r.2.2.2.2.1 = none) (h : Q none s) : Gs X d mid pc ls [] s Q := by
  obtain ⟨g1, g2⟩ := vm_P_i hp
  refine ⟨1, none, s, ?_, h⟩
  rw [vm_run, g1]
  dsimp only
  rw [g2]
  dsimp only
  rw [show vm_ret r (pc, Instr.return_, ln, a1, a2, a3) [] = some none by simp only [vm_ret]; rw [hr]]
end RULES
