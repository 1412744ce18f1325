/-! one instruction of the pure machine is one of the real one -/
def vm_C (D : va_G) (κ : Nat → ClassId) (base b adS adV L : Nat) (xs : Nat → Int32) (p : Program) (s : State) (m : MethodId) (args : Array Value) (meth : Method) (c : Code) (r : vm_M) : Prop :=
  p.tables.exec = Jvm.exec ∧ c.code = r.2.2.1 ∧ c.maxLocals = r.2.2.2.1 ∧ s.vm.findClass r.1 = some m.cls ∧ (∀ w ∈ vm_G, w.before args s = true) ∧ va_K D vwCl [(κ 0, .int), (κ 1, .object RX0)] s ∧ va_AO RX0 s ∧ (∀ q ∈ vm_nest, va_Nw (.methodLinkNest q.1 q.2.1 q.2.2.1 q.2.2.2) s) ∧ (r.2.1.name = "<init>" → meth.name = "<init>") ∧ meth.sig.returnType = r.2.2.2.2.1 ∧ meth.locks = false ∧ va_X b L xs s s.heap ∧ b < base ∧ vm_SI adS adV base s
theorem vm_bin_i {pc pc' : Nat} {ls ls' : vm_L} {st st' : List Value} {w w' : vm_W} {f : Int32 → Int32 → Option Int32} (h : vm_bin pc ls st w f = some (pc', ls', st', w')) : ∃ x y z st0, st = .int y :: .int x :: st0 ∧ f x y = some z ∧ pc' = pc + 1 ∧ ls = ls' ∧ st' = .int z :: st0 ∧ w = w' := by
  unfold vm_bin at h
  split at h
  · split at h
    · rename_i z hz
      injection h with h; injection h with h1 h; injection h with h2 h; injection h with h3 h4
      exact ⟨_, _, z, _, rfl, hz, h1.symm, h2, h3.symm, h4⟩
    · cases h
  · cases h
theorem vm_lbin_i {pc pc' : Nat} {ls ls' : vm_L} {st st' : List Value} {w w' : vm_W} {f : Int64 → Int64 → Option Value} (h : vm_lbin pc ls st w f = some (pc', ls', st', w')) : ∃ x y z st0, st = .long y :: .long x :: st0 ∧ f x y = some z ∧ pc' = pc + 1 ∧ ls = ls' ∧ st' = z :: st0 ∧ w = w' := by
  unfold vm_lbin at h
  split at h
  · split at h
    · rename_i z hz
      injection h with h; injection h with h1 h; injection h with h2 h; injection h with h3 h4
      exact ⟨_, _, z, _, rfl, hz, h1.symm, h2, h3.symm, h4⟩
    · cases h
  · cases h
theorem vm_push_i {x : Option Value} {f : Value → Bool} {pc pc' : Nat} {ls ls' : vm_L} {st st' : List Value} {w w' : vm_W} (h : vm_push x f pc ls st w = some (pc', ls', st', w')) : ∃ v, x = some v ∧ f v = true ∧ pc' = pc ∧ ls = ls' ∧ st' = v :: st ∧ w = w' := by
  unfold vm_push at h
  split at h
  · split at h
    · rename_i v hv
      injection h with h; injection h with h1 h; injection h with h2 h; injection h with h3 h4
      exact ⟨_, rfl, hv, h1.symm, h2, h3.symm, h4⟩
    · cases h
  · cases h
theorem vm_isI_i {v : Value} (h : vm_isI v = true) : ∃ x, v = .int x := by cases v <;> first | exact ⟨_, rfl⟩ | cases h
theorem vm_isJ_i {v : Value} (h : vm_isJ v = true) : ∃ x, v = .long x := by cases v <;> first | exact ⟨_, rfl⟩ | cases h
theorem vm_isA_i {v : Value} (h : vm_isA v = true) : (∃ x, v = .ref x) ∨ v = .null := by cases v <;> first | exact Or.inl ⟨_, rfl⟩ | exact Or.inr rfl | cases h
theorem vm_sti_i {k pc pc' : Nat} {ls ls' : vm_L} {st st' : List Value} {w w' : vm_W} (h : vm_sti pc k ls st w = some (pc', ls', st', w')) : ∃ x st0, st = .int x :: st0 ∧ k < ls.length ∧ pc' = pc ∧ ls' = vm_st1 ls k (.int x) ∧ st0 = st' ∧ w = w' := by
  unfold vm_sti at h
  split at h
  · split at h
    · rename_i hv
      injection h with h; injection h with h1 h; injection h with h2 h; injection h with h3 h4
      exact ⟨_, _, rfl, hv, h1.symm, h2.symm, h3, h4⟩
    · cases h
  · cases h
theorem vm_sta_i {k pc pc' : Nat} {ls ls' : vm_L} {st st' : List Value} {w w' : vm_W} (h : vm_sta pc k ls st w = some (pc', ls', st', w')) : ∃ v st0, st = v :: st0 ∧ ((∃ x, v = .ref x) ∨ v = .null) ∧ k < ls.length ∧ pc' = pc ∧ ls' = vm_st1 ls k v ∧ st0 = st' ∧ w = w' := by
  unfold vm_sta at h
  split at h
  · split at h
    · rename_i hv
      injection h with h; injection h with h1 h; injection h with h2 h; injection h with h3 h4
      exact ⟨_, _, rfl, Or.inl ⟨_, rfl⟩, hv, h1.symm, h2.symm, h3, h4⟩
    · cases h
  · split at h
    · rename_i hv
      injection h with h; injection h with h1 h; injection h with h2 h; injection h with h3 h4
      exact ⟨_, _, rfl, Or.inr rfl, hv, h1.symm, h2.symm, h3, h4⟩
    · cases h
  · cases h
theorem vm_stl_i {k pc pc' : Nat} {ls ls' : vm_L} {st st' : List Value} {w w' : vm_W} (h : vm_stl pc k ls st w = some (pc', ls', st', w')) : ∃ x st0, st = .long x :: st0 ∧ k + 1 < ls.length ∧ pc' = pc ∧ ls' = vm_st2 ls k (.long x) ∧ st0 = st' ∧ w = w' := by
  unfold vm_stl at h
  split at h
  · split at h
    · rename_i hv
      injection h with h; injection h with h1 h; injection h with h2 h; injection h with h3 h4
      exact ⟨_, _, rfl, hv, h1.symm, h2.symm, h3, h4⟩
    · cases h
  · cases h
theorem vm_iinc_i {k pc pc' : Nat} {n : Int} {ls ls' : vm_L} {st st' : List Value} {w w' : vm_W} (h : vm_iinc pc k n ls st w = some (pc', ls', st', w')) : ∃ x, vm_ld ls k = some (.int x) ∧ k < ls.length ∧ pc' = pc + 3 ∧ ls' = vm_st1 ls k (.int (x + Int32.ofInt n)) ∧ st = st' ∧ w = w' := by
  unfold vm_iinc at h
  split at h
  · split at h
    · rename_i hx hv
      injection h with h; injection h with h1 h; injection h with h2 h; injection h with h3 h4
      exact ⟨_, hx, hv, h1.symm, h2.symm, h3, h4⟩
    · cases h
  · cases h
theorem vm_jmp_i {pc pc' : Nat} {off : Int} {ls ls' : vm_L} {st st' : List Value} {w w' : vm_W} (h : vm_jmp pc off ls st w = some (pc', ls', st', w')) : (pc : Int) + off = (pc' : Int) ∧ ls = ls' ∧ st = st' ∧ w = w' := by
  unfold vm_jmp at h
  split at h
  · rename_i hv
    injection h with h; injection h with h1 h; injection h with h2 h; injection h with h3 h4
    refine ⟨?_, h2, h3, h4⟩
    rw [← h1]; unfold vm_tg; omega
  · cases h
theorem vm_if0_i {cd : Jvm.ClassFile.Cond} {pc pc' : Nat} {off : Int} {ls ls' : vm_L} {st st' : List Value} {w w' : vm_W} (h : vm_if0 cd pc off ls st w = some (pc', ls', st', w')) : ∃ x st0 tgt, st = .int x :: st0 ∧ (pc : Int) + off = ((tgt : Nat) : Int) ∧ ((vm_cmp cd x 0 = true ∧ pc' = tgt) ∨ (¬ vm_cmp cd x 0 = true ∧ pc' = pc + 3)) ∧ ls = ls' ∧ st0 = st' ∧ w = w' := by
  unfold vm_if0 at h
  split at h
  · split at h
    · rename_i hv
      have ht : (pc : Int) + off = ((vm_tg pc off : Nat) : Int) := by unfold vm_tg; omega
      split at h
      · rename_i hc
        injection h with h; injection h with h1 h; injection h with h2 h; injection h with h3 h4
        exact ⟨_, _, _, rfl, ht, Or.inl ⟨hc, h1.symm⟩, h2, h3, h4⟩
      · rename_i hc
        injection h with h; injection h with h1 h; injection h with h2 h; injection h with h3 h4
        exact ⟨_, _, _, rfl, ht, Or.inr ⟨hc, h1.symm⟩, h2, h3, h4⟩
    · cases h
  · cases h
theorem vm_if2_i {cd : Jvm.ClassFile.Cond} {pc pc' : Nat} {off : Int} {ls ls' : vm_L} {st st' : List Value} {w w' : vm_W} (h : vm_if2 cd pc off ls st w = some (pc', ls', st', w')) : ∃ x y st0 tgt, st = .int y :: .int x :: st0 ∧ (pc : Int) + off = ((tgt : Nat) : Int) ∧ ((vm_cmp cd x y = true ∧ pc' = tgt) ∨ (¬ vm_cmp cd x y = true ∧ pc' = pc + 3)) ∧ ls = ls' ∧ st0 = st' ∧ w = w' := by
  unfold vm_if2 at h
  split at h
  · split at h
    · rename_i hv
      have ht : (pc : Int) + off = ((vm_tg pc off : Nat) : Int) := by unfold vm_tg; omega
      split at h
      · rename_i hc
        injection h with h; injection h with h1 h; injection h with h2 h; injection h with h3 h4
        exact ⟨_, _, _, _, rfl, ht, Or.inl ⟨hc, h1.symm⟩, h2, h3, h4⟩
      · rename_i hc
        injection h with h; injection h with h1 h; injection h with h2 h; injection h with h3 h4
        exact ⟨_, _, _, _, rfl, ht, Or.inr ⟨hc, h1.symm⟩, h2, h3, h4⟩
    · cases h
  · cases h
theorem vm_ifn_i {nn : Bool} {pc pc' : Nat} {off : Int} {ls ls' : vm_L} {st st' : List Value} {w w' : vm_W} (h : vm_ifn nn pc off ls st w = some (pc', ls', st', w')) : ∃ v st0 tgt, st = v :: st0 ∧ (pc : Int) + off = ((tgt : Nat) : Int) ∧ (((∃ x, v = .ref x) ∧ pc' = (if nn = true then tgt else pc + 3)) ∨ (v = .null ∧ pc' = (if nn = true then pc + 3 else tgt))) ∧ ls = ls' ∧ st0 = st' ∧ w = w' := by
  unfold vm_ifn at h
  split at h
  · split at h
    · rename_i hv
      have ht : (pc : Int) + off = ((vm_tg pc off : Nat) : Int) := by unfold vm_tg; omega
      injection h with h; injection h with h1 h; injection h with h2 h; injection h with h3 h4
      exact ⟨_, _, _, rfl, ht, Or.inl ⟨⟨_, rfl⟩, h1.symm⟩, h2, h3, h4⟩
    · cases h
  · split at h
    · rename_i hv
      have ht : (pc : Int) + off = ((vm_tg pc off : Nat) : Int) := by unfold vm_tg; omega
      injection h with h; injection h with h1 h; injection h with h2 h; injection h with h3 h4
      exact ⟨_, _, _, rfl, ht, Or.inr ⟨rfl, h1.symm⟩, h2, h3, h4⟩
    · cases h
  · cases h
theorem vm_get_i {a b pc pc' : Nat} {ls ls' : vm_L} {st st' : List Value} {w w' : vm_W} (h : vm_get a b pc ls st w = some (pc', ls', st', w')) : ∃ i st0 fs v, st = .ref i :: st0 ∧ i < w.1 ∧ w.2.2 i = .inr (.inr (a, fs)) ∧ fs[b]? = some v ∧ pc' = pc + 3 ∧ ls = ls' ∧ st' = v :: st0 ∧ w = w' := by
  unfold vm_get at h
  split at h
  · split at h
    · rename_i hi
      split at h
      · rename_i ci fs he
        split at h
        · rename_i hc
          subst hc
          split at h
          · rename_i v hv
            injection h with h; injection h with h1 h; injection h with h2 h; injection h with h3 h4
            exact ⟨_, _, fs, v, rfl, hi, he, hv, h1.symm, h2, h3.symm, h4⟩
          · cases h
        · cases h
      · cases h
    · cases h
  · cases h
theorem vm_put_i {r : vm_M} {a b pc pc' : Nat} {ls ls' : vm_L} {st st' : List Value} {w w' : vm_W} (h : vm_put r a b pc ls st w = some (pc', ls', st', w')) : ∃ i st0 fs v, st = v :: .ref i :: st0 ∧ i < w.1 ∧ w.2.2 i = .inr (.inr (a, fs)) ∧ b < fs.length ∧ vm_fit (vm_ty a b) v = true ∧ vm_fin r a b = true ∧ pc' = pc + 3 ∧ ls = ls' ∧ st0 = st' ∧ w' = (w.1, w.2.1, vm_up w.2.2 i (.inr (.inr (a, fs.set b v)))) := by
  unfold vm_put at h
  split at h
  · split at h
    · rename_i hi
      split at h
      · rename_i ci fs he
        split at h
        · rename_i hc
          obtain ⟨rfl, c1, c2, c3⟩ := hc
          injection h with h; injection h with h1 h; injection h with h2 h; injection h with h3 h4
          exact ⟨_, _, fs, _, rfl, hi, he, c1, c2, c3, h1.symm, h2, h3, h4.symm⟩
        · cases h
      · cases h
    · cases h
  · cases h
theorem vm_ald_i {pc pc' : Nat} {ls ls' : vm_L} {st st' : List Value} {w w' : vm_W} (h : vm_ald pc ls st w = some (pc', ls', st', w')) : ∃ i j st0 n f, st = .int j :: .ref i :: st0 ∧ (i < w.1 ∨ i = vm_scr) ∧ w.2.2 i = .inl (n, f) ∧ vp_in j n ∧ pc' = pc + 1 ∧ ls = ls' ∧ st' = .int (f j.toNatClampNeg) :: st0 ∧ w = w' := by
  unfold vm_ald at h
  split at h
  · split at h
    · rename_i hi
      split at h
      · rename_i n f he
        split at h
        · cases h
        · rename_i hj
          injection h with h; injection h with h1 h; injection h with h2 h; injection h with h3 h4
          exact ⟨_, _, _, n, f, rfl, hi, he, hj, h1.symm, h2, h3.symm, h4⟩
      · cases h
    · cases h
  · cases h
theorem vm_ast_i {pc pc' : Nat} {ls ls' : vm_L} {st st' : List Value} {w w' : vm_W} (h : vm_ast pc ls st w = some (pc', ls', st', w')) : ∃ i j x st0 n f, st = .int x :: .int j :: .ref i :: st0 ∧ i < w.1 ∧ w.2.2 i = .inl (n, f) ∧ vp_in j n ∧ pc' = pc + 1 ∧ ls = ls' ∧ st0 = st' ∧ w' = (w.1, w.2.1, vm_up w.2.2 i (.inl (n, upd f j.toNatClampNeg x))) := by
  unfold vm_ast at h
  split at h
  · split at h
    · rename_i hi
      split at h
      · rename_i n f he
        split at h
        · cases h
        · rename_i hj
          injection h with h; injection h with h1 h; injection h with h2 h; injection h with h3 h4
          exact ⟨_, _, _, _, n, f, rfl, hi, he, hj, h1.symm, h2, h3, h4.symm⟩
      · cases h
    · cases h
  · cases h
theorem vm_qld_i {pc pc' : Nat} {ls ls' : vm_L} {st st' : List Value} {w w' : vm_W} (h : vm_qld pc ls st w = some (pc', ls', st', w')) : ∃ i j st0 n g k, st = .int j :: .ref i :: st0 ∧ i < w.1 ∧ w.2.2 i = .inr (.inl (n, g)) ∧ vp_in j n ∧ g j.toNatClampNeg = some k ∧ pc' = pc + 1 ∧ ls = ls' ∧ st' = .ref k :: st0 ∧ w = w' := by
  unfold vm_qld at h
  split at h
  · split at h
    · rename_i hi
      split at h
      · rename_i n f he
        split at h
        · cases h
        · rename_i hj
          split at h
          · rename_i k hk
            injection h with h; injection h with h1 h; injection h with h2 h; injection h with h3 h4
            exact ⟨_, _, _, n, f, k, rfl, hi, he, hj, hk, h1.symm, h2, h3.symm, h4⟩
          · cases h
      · cases h
    · cases h
  · cases h
theorem vm_isC_i {e : vm_E} (h : vm_isC e = true) : ∃ fs, e = .inr (.inr (0, fs)) := by
  unfold vm_isC at h
  split at h
  · exact ⟨_, rfl⟩
  · cases h
theorem vm_qst_i {pc pc' : Nat} {ls ls' : vm_L} {st st' : List Value} {w w' : vm_W} (h : vm_qst pc ls st w = some (pc', ls', st', w')) : ∃ i j v st0 n g fs, st = .ref v :: .int j :: .ref i :: st0 ∧ i < w.1 ∧ v < w.1 ∧ w.2.2 v = .inr (.inr (0, fs)) ∧ w.2.2 i = .inr (.inl (n, g)) ∧ vp_in j n ∧ pc' = pc + 1 ∧ ls = ls' ∧ st0 = st' ∧ w' = (w.1, w.2.1, vm_up w.2.2 i (.inr (.inl (n, va_up g j.toNatClampNeg (some v))))) := by
  unfold vm_qst at h
  split at h
  · split at h
    · rename_i hi
      obtain ⟨h1, h2, h3⟩ := hi
      obtain ⟨fs, hfs⟩ := vm_isC_i h3
      split at h
      · rename_i n f he
        split at h
        · cases h
        · rename_i hj
          injection h with h; injection h with g1 h; injection h with g2 h; injection h with g3 g4
          exact ⟨_, _, _, _, n, f, fs, rfl, h1, h2, hfs, he, hj, g1.symm, g2, g3, g4.symm⟩
      · cases h
    · cases h
  · cases h
theorem vm_alen_i {pc pc' : Nat} {ls ls' : vm_L} {st st' : List Value} {w w' : vm_W} (h : vm_alen pc ls st w = some (pc', ls', st', w')) : ∃ i n st0, st = .ref i :: st0 ∧ ((∃ f, w.2.2 i = .inl (n, f) ∧ (i < w.1 ∨ i = vm_scr)) ∨ (∃ g, w.2.2 i = .inr (.inl (n, g)) ∧ i < w.1)) ∧ pc' = pc + 1 ∧ ls = ls' ∧ st' = .int (Int32.ofNat n) :: st0 ∧ w = w' := by
  unfold vm_alen at h
  split at h
  · split at h
    · rename_i hi
      split at h
      · rename_i n f he
        injection h with h; injection h with h1 h; injection h with h2 h; injection h with h3 h4
        exact ⟨_, n, _, rfl, Or.inl ⟨f, he, hi⟩, h1.symm, h2, h3.symm, h4⟩
      · rename_i n g he
        split at h
        · rename_i hi2
          injection h with h; injection h with h1 h; injection h with h2 h; injection h with h3 h4
          exact ⟨_, n, _, rfl, Or.inr ⟨g, he, hi2⟩, h1.symm, h2, h3.symm, h4⟩
        · cases h
      · cases h
    · cases h
  · cases h
theorem vm_newi_i {pc pc' : Nat} {ls ls' : vm_L} {st st' : List Value} {w w' : vm_W} (h : vm_newi pc ls st w = some (pc', ls', st', w')) : ∃ n st0, st = .int n :: st0 ∧ ¬ n < 0 ∧ n.toNatClampNeg ≤ 1000 ∧ w.1 < 1000 ∧ pc' = pc + 2 ∧ ls = ls' ∧ st' = .ref w.1 :: st0 ∧ w' = (w.1 + 1, w.2.1 + n.toNatClampNeg, vm_up w.2.2 w.1 (.inl (n.toNatClampNeg, fun _ => 0))) := by
  unfold vm_newi at h
  split at h
  · split at h
    · rename_i hi
      injection h with h; injection h with h1 h; injection h with h2 h; injection h with h3 h4
      exact ⟨_, _, rfl, hi.1, hi.2.1, hi.2.2, h1.symm, h2, h3.symm, h4.symm⟩
    · cases h
  · cases h
theorem vm_newq_i {pc pc' : Nat} {ls ls' : vm_L} {st st' : List Value} {w w' : vm_W} (h : vm_newq pc ls st w = some (pc', ls', st', w')) : ∃ n st0, st = .int n :: st0 ∧ ¬ n < 0 ∧ n.toNatClampNeg ≤ 1000 ∧ w.1 < 1000 ∧ pc' = pc + 3 ∧ ls = ls' ∧ st' = .ref w.1 :: st0 ∧ w' = (w.1 + 1, w.2.1 + n.toNatClampNeg, vm_up w.2.2 w.1 (.inr (.inl (n.toNatClampNeg, fun _ => none)))) := by
  unfold vm_newq at h
  split at h
  · split at h
    · rename_i hi
      injection h with h; injection h with h1 h; injection h with h2 h; injection h with h3 h4
      exact ⟨_, _, rfl, hi.1, hi.2.1, hi.2.2, h1.symm, h2, h3.symm, h4.symm⟩
    · cases h
  · cases h
theorem vm_new_i {a pc pc' : Nat} {ls ls' : vm_L} {st st' : List Value} {w w' : vm_W} (h : vm_new a pc ls st w = some (pc', ls', st', w')) : ∃ C T N, vwCl[a]? = some (C, T, N) ∧ w.1 < 1000 ∧ pc' = pc + 3 ∧ ls = ls' ∧ st' = .ref w.1 :: st ∧ w' = (w.1 + 1, w.2.1 + N, vm_up w.2.2 w.1 (.inr (.inr (a, (List.range N).map (fun j => defaultValue (vm_ty a j)))))) := by
  unfold vm_new at h
  split at h
  · rename_i C T N hc
    split at h
    · rename_i hi
      injection h with h; injection h with h1 h; injection h with h2 h; injection h with h3 h4
      exact ⟨C, T, N, hc, hi, h1.symm, h2, h3.symm, h4.symm⟩
    · cases h
  · cases h
theorem vm_dup_i {pc pc' : Nat} {ls ls' : vm_L} {st st' : List Value} {w w' : vm_W} (h : vm_dup pc ls st w = some (pc', ls', st', w')) : ∃ va st0, st = va :: st0 ∧ va.category = 1 ∧ pc' = pc + 1 ∧ ls = ls' ∧ st' = va :: va :: st0 ∧ w = w' := by
  unfold vm_dup at h
  split at h
  · split at h
    · rename_i hi
      injection h with h; injection h with h1 h; injection h with h2 h; injection h with h3 h4
      exact ⟨_, _, rfl, hi, h1.symm, h2, h3.symm, h4⟩
    · cases h
  · cases h
theorem vm_pop_i {pc pc' : Nat} {ls ls' : vm_L} {st st' : List Value} {w w' : vm_W} (h : vm_pop pc ls st w = some (pc', ls', st', w')) : ∃ va st0, st = va :: st0 ∧ va.category = 1 ∧ pc' = pc + 1 ∧ ls = ls' ∧ st0 = st' ∧ w = w' := by
  unfold vm_pop at h
  split at h
  · split at h
    · rename_i hi
      injection h with h; injection h with h1 h; injection h with h2 h; injection h with h3 h4
      exact ⟨_, _, rfl, hi, h1.symm, h2, h3, h4⟩
    · cases h
  · cases h
theorem vm_dup2_i {pc pc' : Nat} {ls ls' : vm_L} {st st' : List Value} {w w' : vm_W} (h : vm_dup2 pc ls st w = some (pc', ls', st', w')) : ∃ va vb st0, st = va :: vb :: st0 ∧ va.category = 1 ∧ vb.category = 1 ∧ pc' = pc + 1 ∧ ls = ls' ∧ st' = va :: vb :: va :: vb :: st0 ∧ w = w' := by
  unfold vm_dup2 at h
  split at h
  · split at h
    · rename_i hi
      injection h with h; injection h with h1 h; injection h with h2 h; injection h with h3 h4
      exact ⟨_, _, _, rfl, hi.1, hi.2, h1.symm, h2, h3.symm, h4⟩
    · cases h
  · cases h
theorem vm_i2l_i {pc pc' : Nat} {ls ls' : vm_L} {st st' : List Value} {w w' : vm_W} (h : vm_i2l pc ls st w = some (pc', ls', st', w')) : ∃ x st0, st = .int x :: st0 ∧ pc' = pc + 1 ∧ ls = ls' ∧ st' = .long x.toInt64 :: st0 ∧ w = w' := by
  unfold vm_i2l at h
  split at h
  · injection h with h; injection h with h1 h; injection h with h2 h; injection h with h3 h4
    exact ⟨_, _, rfl, h1.symm, h2, h3.symm, h4⟩
  · cases h
theorem vm_l2i_i {pc pc' : Nat} {ls ls' : vm_L} {st st' : List Value} {w w' : vm_W} (h : vm_l2i pc ls st w = some (pc', ls', st', w')) : ∃ x st0, st = .long x :: st0 ∧ pc' = pc + 1 ∧ ls = ls' ∧ st' = .int x.toInt32 :: st0 ∧ w = w' := by
  unfold vm_l2i at h
  split at h
  · injection h with h; injection h with h1 h; injection h with h2 h; injection h with h3 h4
    exact ⟨_, _, rfl, h1.symm, h2, h3.symm, h4⟩
  · cases h
theorem vm_oin_i {d pc pc' : Nat} {ls ls' : vm_L} {st st' : List Value} {w w' : vm_W} (h : vm_oin d pc ls st w = some (pc', ls', st', w')) : ∃ i st0, st = .ref i :: st0 ∧ 1 ≤ d ∧ (st0.map fun v => v.category).sum ≤ 8 ∧ pc' = pc + 3 ∧ ls = ls' ∧ st0 = st' ∧ w = w' := by
  unfold vm_oin at h
  split at h
  · split at h
    · rename_i hi
      injection h with h; injection h with h1 h; injection h with h2 h; injection h with h3 h4
      exact ⟨_, _, rfl, hi.1, hi.2, h1.symm, h2, h3, h4⟩
    · cases h
  · cases h
theorem vm_sln_i {d pc pc' : Nat} {ls ls' : vm_L} {st st' : List Value} {w w' : vm_W} (h : vm_sln d pc ls st w = some (pc', ls', st', w')) : ∃ st0, st = .ref vm_str :: st0 ∧ 10 ≤ d ∧ (st0.map fun v => v.category).sum ≤ 8 ∧ pc' = pc + 3 ∧ ls = ls' ∧ st' = .int (Int32.ofNat vm_txt.length) :: st0 ∧ w = w' := by
  unfold vm_sln at h
  split at h
  · split at h
    · rename_i hi
      obtain ⟨rfl, hi1, hi2⟩ := hi
      injection h with h; injection h with h1 h; injection h with h2 h; injection h with h3 h4
      exact ⟨_, rfl, hi1, hi2, h1.symm, h2, h3.symm, h4⟩
    · cases h
  · cases h
theorem vm_sch_i {d pc pc' : Nat} {ls ls' : vm_L} {st st' : List Value} {w w' : vm_W} (h : vm_sch d pc ls st w = some (pc', ls', st', w')) : ∃ j z st0, st = .int j :: .ref vm_str :: st0 ∧ 10 ≤ d ∧ (st0.map fun v => v.category).sum ≤ 8 ∧ ¬ j < 0 ∧ vm_txt[j.toNatClampNeg]? = some z ∧ pc' = pc + 3 ∧ ls = ls' ∧ st' = .int z :: st0 ∧ w = w' := by
  unfold vm_sch at h
  split at h
  · split at h
    · rename_i hi
      obtain ⟨rfl, hi1, hi2, hi3⟩ := hi
      split at h
      · rename_i z hz
        injection h with h; injection h with h1 h; injection h with h2 h; injection h with h3 h4
        exact ⟨_, z, _, rfl, hi1, hi2, hi3, hz, h1.symm, h2, h3.symm, h4⟩
      · cases h
    · cases h
  · cases h
theorem vm_lc_i {x : Option Value} {pc pc' : Nat} {ls ls' : vm_L} {st st' : List Value} {w w' : vm_W} (h : vm_lc x pc ls st w = some (pc', ls', st', w')) : ∃ v, x = some v ∧ pc' = pc ∧ ls = ls' ∧ st' = v :: st ∧ w = w' := by
  unfold vm_lc at h
  split at h
  · injection h with h; injection h with h1 h; injection h with h2 h; injection h with h3 h4
    exact ⟨_, rfl, h1.symm, h2, h3.symm, h4⟩
  · cases h
theorem vm_tab_i {pc pc' : Nat} {dd lo hi : Int} {os : Array Int} {ls ls' : vm_L} {st st' : List Value} {w w' : vm_W} (h : vm_tab pc dd lo hi os ls st w = some (pc', ls', st', w')) : ∃ x st0, st = .int x :: st0 ∧ (((x.toInt < lo ∨ hi < x.toInt) ∧ (pc : Int) + dd = (pc' : Int)) ∨ (¬ (x.toInt < lo ∨ hi < x.toInt) ∧ ∃ off, os[(x.toInt - lo).toNat]? = some off ∧ (pc : Int) + off = (pc' : Int))) ∧ ls = ls' ∧ st0 = st' ∧ w = w' := by
  unfold vm_tab at h
  split at h
  · split at h
    · rename_i hx
      obtain ⟨h1, h2, h3, h4⟩ := vm_jmp_i h
      exact ⟨_, _, rfl, Or.inl ⟨hx, h1⟩, h2, h3, h4⟩
    · rename_i hx
      split at h
      · rename_i off ho
        obtain ⟨h1, h2, h3, h4⟩ := vm_jmp_i h
        exact ⟨_, _, rfl, Or.inr ⟨hx, off, ho, h1⟩, h2, h3, h4⟩
      · cases h
  · cases h
theorem vm_lku_i {pc pc' : Nat} {dd : Int} {ps : Array (Int × Int)} {ls ls' : vm_L} {st st' : List Value} {w w' : vm_W} (h : vm_lku pc dd ps ls st w = some (pc', ls', st', w')) : ∃ x st0, st = .int x :: st0 ∧ (ps.toList.zip (ps.toList.drop 1)).all (fun (a, next) => a.1 < next.1) = true ∧ (pc : Int) + Op.lookupswitch.offset ps.toList dd x.toInt = (pc' : Int) ∧ ls = ls' ∧ st0 = st' ∧ w = w' := by
  unfold vm_lku at h
  split at h
  · split at h
    · rename_i hx
      obtain ⟨h1, h2, h3, h4⟩ := vm_jmp_i h
      exact ⟨_, _, rfl, hx, h1, h2, h3, h4⟩
    · cases h
  · cases h
