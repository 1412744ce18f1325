/-! what the pure machine's state is of the real one -/
def vm_r (base b adS : Nat) (i : Nat) : Nat := if i = vm_scr then b else if i = vm_str then adS else base + i
def vm_v (ρ : Nat → Nat) (v : Value) : Value := match v with
  | .ref a => .ref (ρ a)
  | v => v
def vm_c (ρ : Nat → Nat) (κ : Nat → ClassId) (e : vm_E) : va_E := match e with
  | .inl (n, f) => .inl (κ 0, n, .inl f)
  | .inr (.inl (n, g)) => .inl (κ 1, n, .inr (.inr (.inr (.inr (fun j => (g j).map ρ)))))
  | .inr (.inr (ci, fs)) => .inr (ci, fs.map (vm_v ρ))
def vm_H (D : va_G) (κ : Nat → ClassId) (base b adS L : Nat) (xs : Nat → Int32) (w : vm_W) (H : Heap) : Prop :=
  H.size = base + w.1 ∧ w.1 ≤ 1000 ∧ w.2.2 vm_scr = .inl (L, xs) ∧ ∀ i, i < w.1 → va_at D vwCl (base + i, vm_c (vm_r base b adS) κ (w.2.2 i)) H
def vm_LV (ρ : Nat → Nat) (lsr : Array Slot) (nL : Nat) (ls : vm_L) : Prop := ls.length = nL ∧ lsr.size = nL ∧ lv_wf lsr ∧ ∀ i v, vm_ld ls i = some v → lsr[i]? = some (.val (vm_v ρ v))
/-- the world in the heap, what is below it as at the start, only what is above written to -/
def vm_T (D : va_G) (κ : Nat → ClassId) (base b adS L : Nat) (xs : Nat → Int32) (H0 : Heap) (w : vm_W) (H : Heap) (locs : List Loc) : Prop :=
  vm_H D κ base b adS L xs w H ∧ (base ≤ H0.size ∧ H0.size ≤ H.size) ∧ (∀ q : Nat, q < base → H[q]? = H0[q]?) ∧ ∀ q ∈ locs, base ≤ q.base
theorem vm_v_cat (ρ : Nat → Nat) (v : Value) : (vm_v ρ v).category = v.category := by cases v <;> rfl
theorem vm_r_lt {base b adS i : Nat} (h : i < 1000) : vm_r base b adS i = base + i := by
  unfold vm_r
  rw [if_neg (by show ¬ i = 1000000; omega), if_neg (by show ¬ i = 1000001; omega)]
theorem vm_ld_lt {ls : vm_L} : ∀ {i : Nat} {v : Value}, vm_ld ls i = some v → i < ls.length := by
  induction ls with
  | nil => intro i v h; cases h
  | cons a t ih =>
    intro i v h
    cases i with
    | zero => exact Nat.zero_lt_succ _
    | succ i => exact Nat.succ_lt_succ (ih h)
theorem vm_nl_some {x : Option Value} {u : Value} (h : vm_nl x = some u) : x = some u ∧ ¬ u.category = 2 := by
  cases x with
  | none => cases h
  | some v => cases v <;> first | (cases h; done) | (injection h with h; subst h; exact ⟨rfl, fun z => absurd (show (1 : Nat) = 2 from z) (by decide)⟩)
theorem vm_st1_len {v : Value} : ∀ (ls : vm_L) (i : Nat), (vm_st1 ls i v).length = ls.length := by
  intro ls
  induction ls with
  | nil => intro i; cases i <;> rfl
  | cons a t ih =>
    intro i
    match i with
    | 0 => rfl
    | 1 => cases t <;> rfl
    | i + 2 => show (vm_st1 t (i + 1) v).length + 1 = t.length + 1; rw [ih]
theorem vm_st1_spec {v : Value} : ∀ (ls : vm_L) (i j : Nat) (u : Value), i < ls.length → vm_ld (vm_st1 ls i v) j = some u → (j = i ∧ u = v) ∨ (j ≠ i ∧ vm_ld ls j = some u ∧ ¬ (j + 1 = i ∧ u.category = 2)) := by
  intro ls
  induction ls with
  | nil => intro i j u h; cases h
  | cons a t ih =>
    intro i j u hi h
    match i, hi, h with
    | 0, _, h =>
      cases j with
      | zero => injection h with h; exact Or.inl ⟨rfl, h.symm⟩
      | succ j => exact Or.inr ⟨by omega, h, by omega⟩
    | 1, hi, h =>
      cases t with
      | nil => exact absurd hi (by show ¬ 1 < 1; omega)
      | cons a2 t2 =>
        match j, h with
        | 0, h =>
          obtain ⟨h1, h2⟩ := vm_nl_some (show vm_nl a = some u from h)
          exact Or.inr ⟨by omega, h1, fun z => h2 z.2⟩
        | 1, h => injection (show some v = some u from h) with h; exact Or.inl ⟨rfl, h.symm⟩
        | j + 2, h => exact Or.inr ⟨by omega, h, by omega⟩
    | i + 2, hi, h =>
      cases j with
      | zero => exact Or.inr ⟨by omega, h, by omega⟩
      | succ j =>
        rcases ih (i + 1) j u (Nat.lt_of_succ_lt_succ hi) h with ⟨h1, h2⟩ | ⟨h1, h2, h3⟩
        · exact Or.inl ⟨by omega, h2⟩
        · exact Or.inr ⟨by omega, h2, fun z => h3 ⟨by omega, z.2⟩⟩
theorem vm_st2_len {v : Value} : ∀ (ls : vm_L) (i : Nat), i + 1 < ls.length → (vm_st2 ls i v).length = ls.length := by
  intro ls
  induction ls with
  | nil => intro i h; cases h
  | cons a t ih =>
    intro i h
    match i, h with
    | 0, h =>
      have h : 1 < t.length + 1 := h
      show (t.drop 1).length + 1 + 1 = t.length + 1
      rw [List.length_drop]; omega
    | 1, h =>
      cases t with
      | nil => exact absurd h (by show ¬ 2 < 1; omega)
      | cons a2 t2 =>
        have h : 2 < t2.length + 1 + 1 := h
        show (t2.drop 1).length + 1 + 1 + 1 = t2.length + 1 + 1
        rw [List.length_drop]; omega
    | i + 2, h => show (vm_st2 t (i + 1) v).length + 1 = t.length + 1; rw [ih _ (by have h : i + 2 + 1 < t.length + 1 := h; omega)]
theorem vm_ld_drop1 {t : vm_L} {j : Nat} : vm_ld (t.drop 1) j = vm_ld t (j + 1) := by cases t <;> rfl
theorem vm_st2_spec {v : Value} : ∀ (ls : vm_L) (i j : Nat) (u : Value), i + 1 < ls.length → vm_ld (vm_st2 ls i v) j = some u → (j = i ∧ u = v) ∨ (j ≠ i ∧ j ≠ i + 1 ∧ vm_ld ls j = some u ∧ ¬ (j + 1 = i ∧ u.category = 2)) := by
  intro ls
  induction ls with
  | nil => intro i j u h; cases h
  | cons a t ih =>
    intro i j u hi h
    match i, hi, h with
    | 0, _, h =>
      match j, h with
      | 0, h => injection (show some v = some u from h) with h; exact Or.inl ⟨rfl, h.symm⟩
      | 1, h => cases (show (none : Option Value) = some u from h)
      | j + 2, h =>
        have h : vm_ld (t.drop 1) j = some u := h
        rw [vm_ld_drop1] at h
        exact Or.inr ⟨by omega, by omega, h, by omega⟩
    | 1, hi, h =>
      cases t with
      | nil => exact absurd hi (by show ¬ 2 < 1; omega)
      | cons a2 t2 =>
        match j, h with
        | 0, h =>
          obtain ⟨h1, h2⟩ := vm_nl_some (show vm_nl a = some u from h)
          exact Or.inr ⟨by omega, by omega, h1, fun z => h2 z.2⟩
        | 1, h => injection (show some v = some u from h) with h; exact Or.inl ⟨rfl, h.symm⟩
        | 2, h => cases (show (none : Option Value) = some u from h)
        | j + 3, h =>
          have h : vm_ld (t2.drop 1) j = some u := h
          rw [vm_ld_drop1] at h
          exact Or.inr ⟨by omega, by omega, h, by omega⟩
    | i + 2, hi, h =>
      cases j with
      | zero => exact Or.inr ⟨by omega, by omega, h, by omega⟩
      | succ j =>
        rcases ih (i + 1) j u (Nat.lt_of_succ_lt_succ hi) h with ⟨h1, h2⟩ | ⟨h1, h2, h3, h4⟩
        · exact Or.inl ⟨by omega, h2⟩
        · exact Or.inr ⟨by omega, by omega, h3, fun z => h4 ⟨by omega, z.2⟩⟩
def vm_kn (ρ : Nat → Nat) (ls : vm_L) : List (Nat × Value) := (List.range ls.length).filterMap fun i => (vm_ld ls i).map fun v => (i, vm_v ρ v)
theorem vm_kn_in {ρ : Nat → Nat} {ls : vm_L} {i : Nat} {v : Value} (h : vm_ld ls i = some v) : (i, vm_v ρ v) ∈ vm_kn ρ ls :=
  List.mem_filterMap.mpr ⟨i, List.mem_range.mpr (vm_ld_lt h), by rw [h]; rfl⟩
theorem vm_has {ρ : Nat → Nat} {lsr : Array Slot} {nL : Nat} {ls : vm_L} (h : vm_LV ρ lsr nL ls) : lv_has lsr nL (vm_kn ρ ls) := by
  refine ⟨h.2.1, h.2.2.1, fun q hq => ?_⟩
  obtain ⟨i, -, hi⟩ := List.mem_filterMap.mp hq
  cases hl : vm_ld ls i with
  | none => rw [hl] at hi; cases hi
  | some v =>
    rw [hl] at hi
    injection hi with hi
    subst hi
    exact h.2.2.2 i v hl
theorem vm_LV_st1 {ρ : Nat → Nat} {lsr ls' : Array Slot} {nL i : Nat} {ls : vm_L} {v : Value} (h : vm_LV ρ lsr nL ls) (hi : i < ls.length) (h' : lv_has ls' nL ((i, vm_v ρ v) :: (vm_kn ρ ls).filter (fun q => !(q.1 == i) && !(q.1 + 1 == i && q.2.category == 2)))) : vm_LV ρ ls' nL (vm_st1 ls i v) := by
  refine ⟨(vm_st1_len ls i).trans h.1, h'.1, h'.2.1, fun j u hj => ?_⟩
  rcases vm_st1_spec ls i j u hi hj with ⟨rfl, rfl⟩ | ⟨h1, h2, h3⟩
  · exact h'.2.2 _ List.mem_cons_self
  · refine h'.2.2 (j, vm_v ρ u) (List.mem_cons_of_mem _ (List.mem_filter.mpr ⟨vm_kn_in h2, ?_⟩))
    have e1 : (j == i) = false := by simpa using h1
    have e2 : (j + 1 == i && (vm_v ρ u).category == 2) = false := by
      rw [vm_v_cat]
      simp only [Bool.and_eq_false_iff, beq_eq_false_iff_ne, ne_eq]
      by_cases z : j + 1 = i
      · exact Or.inr fun y => h3 ⟨z, y⟩
      · exact Or.inl z
    show (!(j == i) && !(j + 1 == i && (vm_v ρ u).category == 2)) = true
    rw [e1, e2]; rfl
theorem vm_LV_st2 {ρ : Nat → Nat} {lsr ls' : Array Slot} {nL i : Nat} {ls : vm_L} {v : Value} (h : vm_LV ρ lsr nL ls) (hi : i + 1 < ls.length) (h' : lv_has ls' nL ((i, vm_v ρ v) :: (vm_kn ρ ls).filter (fun q => !(q.1 == i) && (!(q.1 == i + 1) && !(q.1 + 1 == i && q.2.category == 2))))) : vm_LV ρ ls' nL (vm_st2 ls i v) := by
  refine ⟨(vm_st2_len ls i hi).trans h.1, h'.1, h'.2.1, fun j u hj => ?_⟩
  rcases vm_st2_spec ls i j u hi hj with ⟨rfl, rfl⟩ | ⟨h1, h1', h2, h3⟩
  · exact h'.2.2 _ List.mem_cons_self
  · refine h'.2.2 (j, vm_v ρ u) (List.mem_cons_of_mem _ (List.mem_filter.mpr ⟨vm_kn_in h2, ?_⟩))
    have e1 : (j == i) = false := by simpa using h1
    have e3 : (j == i + 1) = false := by simpa using h1'
    have e2 : (j + 1 == i && (vm_v ρ u).category == 2) = false := by
      rw [vm_v_cat]
      simp only [Bool.and_eq_false_iff, beq_eq_false_iff_ne, ne_eq]
      by_cases z : j + 1 = i
      · exact Or.inr fun y => h3 ⟨z, y⟩
      · exact Or.inl z
    show (!(j == i) && (!(j == i + 1) && !(j + 1 == i && (vm_v ρ u).category == 2))) = true
    rw [e1, e2, e3]; rfl
/-- the heap behind a write to one cell -/
theorem vm_H_up {D : va_G} {κ : Nat → ClassId} {base b adS L : Nat} {xs : Nat → Int32} {w : vm_W} {H H1 : Heap} {i : Nat} {x : vm_E} (h : vm_H D κ base b adS L xs w H) (hi : i < w.1) (hz : H1.size = H.size) (ho : ∀ q : Nat, q ≠ base + i → H1[q]? = H[q]?) (hx : va_at D vwCl (base + i, vm_c (vm_r base b adS) κ x) H1) :
    vm_H D κ base b adS L xs (w.1, w.2.1, vm_up w.2.2 i x) H1 := by
  obtain ⟨h1, h2, h3, h4⟩ := h
  refine ⟨hz.trans h1, h2, ?_, fun j hj => ?_⟩
  · show vm_up w.2.2 i x vm_scr = _
    unfold vm_up
    rw [if_neg (by show ¬ 1000000 = i; omega)]
    exact h3
  · show va_at D vwCl (base + j, vm_c _ κ (vm_up w.2.2 i x j)) H1
    unfold vm_up
    by_cases hji : j = i
    · rw [if_pos hji, hji]; exact hx
    · rw [if_neg hji]
      exact (h4 j hj).kept (ho _ (by omega))
/-- the heap behind a new cell -/
theorem vm_H_push {D : va_G} {κ : Nat → ClassId} {base b adS L : Nat} {xs : Nat → Int32} {w : vm_W} {H H1 : Heap} {x : vm_E} {k : Nat} (h : vm_H D κ base b adS L xs w H) (hn : w.1 < 1000) (hz : H1.size = H.size + 1) (ho : ∀ q : Nat, q < H.size → H1[q]? = H[q]?) (hx : va_at D vwCl (base + w.1, vm_c (vm_r base b adS) κ x) H1) :
    vm_H D κ base b adS L xs (w.1 + 1, k, vm_up w.2.2 w.1 x) H1 := by
  obtain ⟨h1, h2, h3, h4⟩ := h
  refine ⟨by rw [hz, h1]; rfl, hn, ?_, fun j hj => ?_⟩
  · show vm_up w.2.2 w.1 x vm_scr = _
    unfold vm_up
    rw [if_neg (by show ¬ 1000000 = w.1; omega)]
    exact h3
  · show va_at D vwCl (base + j, vm_c _ κ (vm_up w.2.2 w.1 x j)) H1
    unfold vm_up
    by_cases hji : j = w.1
    · rw [if_pos hji, hji]; exact hx
    · rw [if_neg hji]
      have hj : j < w.1 + 1 := hj
      exact (h4 j (by omega)).kept (ho _ (by show base + j < H.size; omega))
