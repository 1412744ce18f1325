/-! a run of the pure machine, from any of its frames, is one of the real machine; a method's run is its contract -/
def vm_rm (d mc ms : Nat) : Room := { frames := d, cells := mc, slots := ms, locals := 40 * d + 20 }
def vm_ws (r : vm_M) : List Cond := .code r.2.1 r.2.2.1 r.2.2.2.1 r.2.2.2.2.1 :: vm_G
def vm_I0 (κ : Nat → ClassId) (D : va_G) (base b adS adV L : Nat) (xs : Nat → Int32) (U : State) : Prop :=
  va_K D vwCl [(κ 0, .int), (κ 1, .object RX0)] U ∧ va_AO RX0 U ∧ (∀ q ∈ vm_nest, va_Nw (.methodLinkNest q.1 q.2.1 q.2.2.1 q.2.2.2) U) ∧ va_X b L xs U U.heap ∧ b < base ∧ base ≤ U.heap.size ∧ vm_SI adS adV base U
def vm_Pc (κ : Nat → ClassId) (D : va_G) (base b adS adV L : Nat) (xs : Nat → Int32) (as : List Value) (w : vm_W) : Array Value → State → Prop := fun a U => a = (as.map (vm_v (vm_r base b adS))).toArray ∧ vm_I0 κ D base b adS adV L xs U ∧ vm_H D κ base b adS L xs w U.heap
def vm_Qc (κ : Nat → ClassId) (D : va_G) (base b adS L : Nat) (xs : Nat → Int32) (v : Option Value) (w : vm_W) : Array Value → State → Outcome → State → Prop := fun _ st o t => o = .returned (v.map (vm_v (vm_r base b adS))) ∧ vm_H D κ base b adS L xs w t.heap ∧ st.heap.size ≤ t.heap.size ∧ ∀ q : Nat, q < base → t.heap[q]? = st.heap[q]?
theorem vm_ent_in {ρ : Nat → Nat} : ∀ (as : List Value) (k n : Nat) (i : Nat) (v : Value), vm_ld (vm_args as ++ List.replicate n none) i = some v → (k + i, vm_v ρ v) ∈ lv_args k (as.map (vm_v ρ)) := by
  intro as
  induction as with
  | nil =>
    intro k n i v h
    exfalso
    induction n generalizing i with
    | zero => cases h
    | succ n ih =>
      cases i with
      | zero => cases h
      | succ i => exact ih i h
  | cons a t ih =>
    intro k n i v h
    show (k + i, vm_v ρ v) ∈ (k, vm_v ρ a) :: lv_args (if (vm_v ρ a).category = 2 then k + 2 else k + 1) (t.map (vm_v ρ))
    by_cases hc : a.category = 2
    · rw [if_pos ((vm_v_cat ρ a).trans hc)]
      have e : vm_args (a :: t) = some a :: none :: vm_args t := by unfold vm_args; rw [List.flatMap_cons, if_pos hc]; rfl
      rw [e] at h
      match i, h with
      | 0, h => injection h with h; subst h; exact List.mem_cons_self
      | 1, h => cases h
      | i + 2, h =>
        have := ih (k + 2) n i v h
        rw [show k + (i + 2) = k + 2 + i by omega]
        exact List.mem_cons_of_mem _ this
    · rw [if_neg (fun z => hc ((vm_v_cat ρ a).symm.trans z))]
      have e : vm_args (a :: t) = some a :: vm_args t := by unfold vm_args; rw [List.flatMap_cons, if_neg hc]; rfl
      rw [e] at h
      match i, h with
      | 0, h => injection h with h; subst h; exact List.mem_cons_self
      | i + 1, h =>
        have := ih (k + 1) n i v h
        rw [show k + (i + 1) = k + 1 + i by omega]
        exact List.mem_cons_of_mem _ this
theorem vm_args_len {ρ : Nat → Nat} : ∀ as : List Value, (lg_sl (as.map (vm_v ρ))).length = (vm_args as).length := by
  intro as
  induction as with
  | nil => rfl
  | cons a t ih =>
    show ((if (vm_v ρ a).category = 2 then _ else _) ++ lg_sl (t.map (vm_v ρ))).length = ((if a.category = 2 then _ else _) ++ vm_args t).length
    rw [List.length_append, List.length_append, ih, vm_v_cat]
    split <;> rfl
theorem vm_entry {ρ : Nat → Nat} {as : List Value} {n : Nat} (h : (vm_args as).length ≤ n) : vm_LV ρ ((lg_sl (as.map (vm_v ρ)) ++ List.replicate (n - (lg_sl (as.map (vm_v ρ))).length) Slot.unset).toArray) n (vm_ent n as) := by
  have hl := lv_entry (as.map (vm_v ρ)) (n := n) (by rw [vm_args_len]; exact h)
  refine ⟨?_, hl.1, hl.2.1, fun i v hv => ?_⟩
  · unfold vm_ent
    rw [List.length_append, List.length_replicate]; omega
  · have := vm_ent_in (ρ := ρ) as 0 _ i v hv
    rw [Nat.zero_add] at this
    exact hl.2.2 _ this
/-- what a run owes: W from its frame, given W from its end -/
def vm_Run (l : Launch) (F : Nat) : Prop := ∀ (d mid pc : Nat) (ls : vm_L) (st : List Value) (w : vm_W) (v : Option Value) (wF : vm_W), vm_run F d mid pc ls st w = some (v, wF) → ∀ (r : vm_M), vm_MT[mid]? = some r →
  ∀ (p : Program) (e : Env) (R : Room) (s : State) (m : MethodId) (args : Array Value) (below : List Frame) (meth : Method) (c : Code) (H : Heap) (locs : List Loc) (Q : State → Prop) (κ : Nat → ClassId) (D : va_G) (base b adS adV L : Nat) (xs : Nat → Int32) (n0 k0 : Nat) (lsr : Array Slot),
  vm_C D κ base b adS adV L xs p s m args meth c r → d ≤ R.frames ∧ 40 * d + 20 ≤ R.locals → n0 ≤ w.1 ∧ k0 ≤ w.2.1 → wF.1 ≤ n0 + R.cells ∧ wF.2.1 ≤ k0 + R.slots → vm_LV (vm_r base b adS) lsr r.2.2.2.1 ls → vm_T D κ base b adS L xs s.heap w H locs →
  (∀ (q : vm_I) (st1 : List Value) (lsr1 : Array Slot) (H1 : Heap) (locs1 : List Loc), q ∈ r.2.2.2.2.2 → vm_ret r q st1 = some v → vm_T D κ base b adS L xs s.heap wF H1 locs1 → W p l e R s m args below meth c H1 locs1 (wF.1 - n0) (wF.2.1 - k0) Q (F0 m q.1 lsr1 (st1.map (vm_v (vm_r base b adS))))) →
  W p l e R s m args below meth c H locs (w.1 - n0) (w.2.1 - k0) Q (F0 m pc lsr (st.map (vm_v (vm_r base b adS))))
theorem vm_ret_i {r : vm_M} {q : vm_I} {st : List Value} {v : Option Value} (h : vm_ret r q st = some v) :
    (∃ x, q.2.1 = .ireturn ∧ st = [.int x] ∧ v = some (.int x) ∧ ∃ ty, r.2.2.2.2.1 = some ty ∧ narrow ty (.int x) = .int x) ∨
    (∃ x n, q.2.1 = .areturn ∧ st = [.ref x] ∧ v = some (.ref x) ∧ r.2.2.2.2.1 = some (.object n)) ∨
    (q.2.1 = .return_ ∧ st = [] ∧ v = none ∧ r.2.2.2.2.1 = none) := by
  obtain ⟨pc, i, len, a, b, cn⟩ := q
  cases i
  case ireturn =>
    simp only [vm_ret] at h
    split at h
    · rename_i x
      split at h
      · rename_i hty
        cases h
        exact Or.inl ⟨_, rfl, rfl, rfl, _, hty, rfl⟩
      · rename_i hty
        split at h
        · rename_i hx
          cases h
          refine Or.inl ⟨_, rfl, rfl, rfl, _, hty, ?_⟩
          rcases hx with rfl | rfl <;> rfl
        · cases h
      · cases h
    · cases h
  case areturn =>
    simp only [vm_ret] at h
    split at h
    · rename_i x
      split at h
      · rename_i n hty
        cases h
        exact Or.inr (Or.inl ⟨_, n, rfl, rfl, rfl, hty⟩)
      · cases h
    · cases h
  case return_ =>
    simp only [vm_ret] at h
    split at h
    · split at h
      · rename_i hty
        cases h
        exact Or.inr (Or.inr ⟨rfl, rfl, rfl, hty⟩)
      · cases h
    · cases h
  all_goals exact absurd (show (none : Option (Option Value)) = some v from h) (fun h => by cases h)
theorem vm_len1 {r : vm_M} {o : Nat} {q : vm_I} {cc : ByteArray} {i : Instr} (hchk : ∀ q ∈ r.2.2.2.2.2, vm_chk o q = true) (hq : q ∈ r.2.2.2.2.2) (hi : q.2.1 = .ireturn ∨ q.2.1 = .areturn ∨ q.2.1 = .return_) (hdg : decode cc q.1 = .ok (i, q.2.2.1)) : decode cc q.1 = .ok (i, 1) := by
  have h := hchk q hq
  unfold vm_chk at h
  rw [Bool.and_eq_true, beq_iff_eq] at h
  have e : q.2.2.1 = 1 := by
    rw [h.1]
    rcases hi with hi | hi | hi <;> rw [hi] <;> rfl
  rw [e] at hdg
  exact hdg
theorem vm_met (l : Launch) {F d mid : Nat} (IH : vm_Run l F) {r : vm_M} (hr : vm_MT[mid]? = some r) (hlt : mid < 205) {as : List Value} {w wF : vm_W} {v : Option Value} (hrun : vm_run F d mid 0 (vm_ent r.2.2.2.1 as) [] w = some (v, wF)) (hlen : (vm_args as).length ≤ r.2.2.2.1)
    (κ : Nat → ClassId) (D : va_G) (base b adS adV L : Nat) (xs : Nat → Int32) :
    Met l r.2.1 (vm_ws r) (vm_rm d (wF.1 - w.1) (wF.2.1 - w.2.1)) (vm_Pc κ D base b adS adV L xs as w) (vm_Qc κ D base b adS L xs v wF) (wF.1 - w.1) (wF.2.1 - w.2.1) (fun q => base ≤ q) := by
  have hmf := vm_callee hlt hr
  have hok := vm_MT_ok r (List.mem_of_getElem? hr)
  have hmono := vm_run_mono _ _ _ _ _ _ _ _ _ hrun
  refine va_MetF (cc := r.2.2.1) (maxL := r.2.2.2.1) (ret := r.2.2.2.2.1) hmf.1 rfl ?_
  intro p e s m args below meth c s₁ B hml hP
  obtain ⟨rfl, ⟨hK, hAO, hN, hX, hbb, hbs, hSI⟩, hH⟩ := hP
  have hts := atoms_spec (ws := vm_ws r) B.pre
  obtain ⟨o, ho, hdec, hchk, hm20, hcl⟩ := hok
  have hown : s.vm.findClass r.1 = some m.cls := by rw [← hcl]; exact findClass_of_methodNamed B.named
  have hlocks := B.notSynchronized
  have C : vm_C D κ base b adS adV L xs p s m (as.map (vm_v (vm_r base b adS))).toArray meth c r := ⟨B.exec, B.bytes, hml, hown, fun x h => hts x (List.mem_cons_of_mem _ h), hK, hAO, hN, fun z => (name_of_methodNamed B.named B.method).1.trans z, B.returns, B.notSynchronized, hX, hbb, hSI⟩
  rw [lg_entry_eq]
  have K := IH d mid 0 _ [] w v wF hrun r hr p e (vm_rm d (wF.1 - w.1) (wF.2.1 - w.2.1)) s m _ below meth c s.heap [] (MQ below (vm_Qc κ D base b adS L xs v wF) (as.map (vm_v (vm_r base b adS))).toArray s (wF.1 - w.1) (wF.2.1 - w.2.1) (fun q => base ≤ q)) κ D base b adS adV L xs w.1 w.2.1 _ C ⟨Nat.le_refl _, Nat.le_refl _⟩ ⟨Nat.le_refl _, Nat.le_refl _⟩ ⟨by show wF.1 ≤ w.1 + (wF.1 - w.1); omega, by show wF.2.1 ≤ w.2.1 + (wF.2.1 - w.2.1); omega⟩ (vm_entry hlen) ⟨hH, ⟨hbs, Nat.le_refl _⟩, fun _ _ => rfl, fun _ h => by cases h⟩ ?_
  · rw [Nat.sub_self, Nat.sub_self] at K
    exact K
  · intro q st1 lsr1 H1 locs1 hq hret hT1
    have hdg := hdec q hq
    obtain ⟨t1, t2, t3, t4⟩ := hT1
    rcases vm_ret_i hret with ⟨x, e1, rfl, rfl, ty, e3, e4⟩ | ⟨x, n, e1, rfl, rfl, e3⟩ | ⟨e1, rfl, rfl, e3⟩
    · rw [e1] at hdg
      exact W.zret (ty := ty) B.exec B.bytes (B.returns.trans e3) e4 (fun t ht hW => ⟨rfl, by rw [ht]; exact t1, by rw [ht]; exact t2.2, fun q hq => by rw [ht]; exact t3 q hq⟩) t4 (vm_len1 hchk hq (Or.inl e1) hdg)
    · rw [e1] at hdg
      exact W.aret B.exec B.bytes (B.returns.trans e3) (Or.inl ⟨_, rfl⟩) (Or.inr ⟨_, rfl⟩) (fun t ht hW => ⟨rfl, by rw [ht]; exact t1, by rw [ht]; exact t2.2, fun q hq => by rw [ht]; exact t3 q hq⟩) t4 (vm_len1 hchk hq (Or.inr (Or.inl e1)) hdg)
    · rw [e1] at hdg
      exact W.vret B.exec B.bytes (B.returns.trans e3) (fun t ht hW => ⟨rfl, by rw [ht]; exact t1, by rw [ht]; exact t2.2, fun q hq => by rw [ht]; exact t3 q hq⟩) t4 (vm_len1 hchk hq (Or.inr (Or.inr e1)) hdg)
