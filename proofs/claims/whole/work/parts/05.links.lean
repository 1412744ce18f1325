/-! links: what the tables' numbers stand for, by words of wsL_law -/
abbrev vm_G : List Cond := wsL_law
theorem vm_GG : ∀ w ∈ vm_G, w ∈ vm_G ∧ ((w.onTables && w.keeps) = true ∨ ∃ ty, w = .arrayClass ty) := fun w h => ⟨h, (vm_bG w h).2⟩
def vm_ty (a : Nat) : Nat → FieldType := match a with
  | 0 => tyX0
  | 1 => tyX1
  | 2 => tyX3
  | 3 => tyX4
  | 4 => tyX5
  | 5 => tyX6
  | 6 => tyX7
  | 7 => tyX8
  | 8 => tyX9
  | 9 => tyX10
  | _ => tyX11
/-- the class a of vwCl: its layout words, its types, its names -/
def vm_cls (a : Nat) : Prop := ∃ (C : String) (T : u_T) (N : Nat), vwCl[a]? = some (C, T, N) ∧ (∀ w ∈ u_ws C T N, w ∈ vm_G) ∧ (∀ k, k < N → parseFieldDescriptor (T k).2.2.1 = some (vm_ty a k)) ∧ (∀ x, x < N → ∀ y, y < N → x ≠ y → (T x).2.1 ≠ (T y).2.1)
theorem vm_cls0 : vm_cls 0 := ⟨RX0, TX0, 3, rfl, inlX0, tyX0_ok, nmX0⟩
theorem vm_cls1 : vm_cls 1 := ⟨RX1, TX1, 3, rfl, inlX1, tyX1_ok, nmX1⟩
theorem vm_cls2 : vm_cls 2 := ⟨RX3, TX3, 5, rfl, inlX3, tyX3_ok, nmX3⟩
theorem vm_cls3 : vm_cls 3 := ⟨RX4, TX4, 6, rfl, inlX4, tyX4_ok, nmX4⟩
theorem vm_cls4 : vm_cls 4 := ⟨RX5, TX5, 5, rfl, inlX5, tyX5_ok, nmX5⟩
theorem vm_cls5 : vm_cls 5 := ⟨RX6, TX6, 2, rfl, inlX6, tyX6_ok, nmX6⟩
theorem vm_cls6 : vm_cls 6 := ⟨RX7, TX7, 3, rfl, inlX7, tyX7_ok, nmX7⟩
theorem vm_cls7 : vm_cls 7 := ⟨RX8, TX8, 5, rfl, inlX8, tyX8_ok, nmX8⟩
theorem vm_cls8 : vm_cls 8 := ⟨RX9, TX9, 5, rfl, inlX9, tyX9_ok, nmX9⟩
theorem vm_cls9 : vm_cls 9 := ⟨RX10, TX10, 12, rfl, inlX10, tyX10_ok, nmX10⟩
theorem vm_cls10 : vm_cls 10 := ⟨RX11, TX11, 23, rfl, inlX11, tyX11_ok, nmX11⟩
theorem vm_clsA : ∀ a, a < 11 → vm_cls a := by
  intro a h
  match a, h with
  | 0, _ => exact vm_cls0
  | 1, _ => exact vm_cls1
  | 2, _ => exact vm_cls2
  | 3, _ => exact vm_cls3
  | 4, _ => exact vm_cls4
  | 5, _ => exact vm_cls5
  | 6, _ => exact vm_cls6
  | 7, _ => exact vm_cls7
  | 8, _ => exact vm_cls8
  | 9, _ => exact vm_cls9
  | 10, _ => exact vm_cls10
def vm_ff (o i a b : Nat) : Prop := ∃ (own C : String) (T : u_T) (N : Nat), vm_nm[o]? = some own ∧ vwCl[a]? = some (C, T, N) ∧ b < N ∧ Cond.fieldLink own i (T b).1 (T b).2.1 (T b).2.2.1 ∈ vm_G
theorem vm_f0 : vm_ff 0 16 0 1 := ⟨RX0, RX0, TX0, 3, rfl, rfl, by decide, vm_r4 _ (List.mem_of_getElem? (i := 3) rfl)⟩
theorem vm_f1 : vm_ff 0 20 0 0 := ⟨RX0, RX0, TX0, 3, rfl, rfl, by decide, vm_r4 _ (List.mem_of_getElem? (i := 4) rfl)⟩
theorem vm_f2 : vm_ff 0 27 0 2 := ⟨RX0, RX0, TX0, 3, rfl, rfl, by decide, vm_r9 _ (List.mem_of_getElem? (i := 22) rfl)⟩
theorem vm_f3 : vm_ff 1 14 1 1 := ⟨RX1, RX1, TX1, 3, rfl, rfl, by decide, vm_r6 _ (List.mem_of_getElem? (i := 14) rfl)⟩
theorem vm_f4 : vm_ff 1 20 1 2 := ⟨RX1, RX1, TX1, 3, rfl, rfl, by decide, vm_r6 _ (List.mem_of_getElem? (i := 15) rfl)⟩
theorem vm_f5 : vm_ff 1 23 1 0 := ⟨RX1, RX1, TX1, 3, rfl, rfl, by decide, vm_r6 _ (List.mem_of_getElem? (i := 16) rfl)⟩
theorem vm_f6 : vm_ff 3 14 2 1 := ⟨RX3, RX3, TX3, 5, rfl, rfl, by decide, vm_r5 _ (List.mem_of_getElem? (i := 8) rfl)⟩
theorem vm_f7 : vm_ff 3 20 2 2 := ⟨RX3, RX3, TX3, 5, rfl, rfl, by decide, vm_r5 _ (List.mem_of_getElem? (i := 9) rfl)⟩
theorem vm_f8 : vm_ff 3 23 2 0 := ⟨RX3, RX3, TX3, 5, rfl, rfl, by decide, vm_r5 _ (List.mem_of_getElem? (i := 10) rfl)⟩
theorem vm_f9 : vm_ff 3 33 2 3 := ⟨RX3, RX3, TX3, 5, rfl, rfl, by decide, vm_r31 _ (List.mem_of_getElem? (i := 11) rfl)⟩
theorem vm_f10 : vm_ff 3 43 2 4 := ⟨RX3, RX3, TX3, 5, rfl, rfl, by decide, vm_r31 _ (List.mem_of_getElem? (i := 13) rfl)⟩
theorem vm_f11 : vm_ff 4 16 3 1 := ⟨RX4, RX4, TX4, 6, rfl, rfl, by decide, vm_r6 _ (List.mem_of_getElem? (i := 2) rfl)⟩
theorem vm_f12 : vm_ff 4 20 3 2 := ⟨RX4, RX4, TX4, 6, rfl, rfl, by decide, vm_r6 _ (List.mem_of_getElem? (i := 3) rfl)⟩
theorem vm_f13 : vm_ff 4 23 3 3 := ⟨RX4, RX4, TX4, 6, rfl, rfl, by decide, vm_r6 _ (List.mem_of_getElem? (i := 4) rfl)⟩
theorem vm_f14 : vm_ff 4 26 3 4 := ⟨RX4, RX4, TX4, 6, rfl, rfl, by decide, vm_r6 _ (List.mem_of_getElem? (i := 5) rfl)⟩
theorem vm_f15 : vm_ff 4 29 3 5 := ⟨RX4, RX4, TX4, 6, rfl, rfl, by decide, vm_r6 _ (List.mem_of_getElem? (i := 6) rfl)⟩
theorem vm_f16 : vm_ff 4 32 3 0 := ⟨RX4, RX4, TX4, 6, rfl, rfl, by decide, vm_r6 _ (List.mem_of_getElem? (i := 7) rfl)⟩
theorem vm_f17 : vm_ff 5 16 4 1 := ⟨RX5, RX5, TX5, 5, rfl, rfl, by decide, vm_r4 _ (List.mem_of_getElem? (i := 19) rfl)⟩
theorem vm_f18 : vm_ff 5 23 4 2 := ⟨RX5, RX5, TX5, 5, rfl, rfl, by decide, vm_r4 _ (List.mem_of_getElem? (i := 21) rfl)⟩
theorem vm_f19 : vm_ff 5 32 4 3 := ⟨RX5, RX5, TX5, 5, rfl, rfl, by decide, vm_r4 _ (List.mem_of_getElem? (i := 23) rfl)⟩
theorem vm_f20 : vm_ff 5 36 4 0 := ⟨RX5, RX5, TX5, 5, rfl, rfl, by decide, vm_r5 _ (List.mem_of_getElem? (i := 0) rfl)⟩
theorem vm_f21 : vm_ff 5 51 4 4 := ⟨RX5, RX5, TX5, 5, rfl, rfl, by decide, vm_r9 _ (List.mem_of_getElem? (i := 8) rfl)⟩
theorem vm_f22 : vm_ff 6 15 5 0 := ⟨RX6, RX6, TX6, 2, rfl, rfl, by decide, vm_r3 _ (List.mem_of_getElem? (i := 12) rfl)⟩
theorem vm_f23 : vm_ff 6 21 5 1 := ⟨RX6, RX6, TX6, 2, rfl, rfl, by decide, vm_r8 _ (List.mem_of_getElem? (i := 23) rfl)⟩
theorem vm_f24 : vm_ff 7 15 6 0 := ⟨RX7, RX7, TX7, 3, rfl, rfl, by decide, vm_r4 _ (List.mem_of_getElem? (i := 12) rfl)⟩
theorem vm_f25 : vm_ff 7 24 6 2 := ⟨RX7, RX7, TX7, 3, rfl, rfl, by decide, vm_r14 _ (List.mem_of_getElem? (i := 9) rfl)⟩
theorem vm_f26 : vm_ff 7 32 6 1 := ⟨RX7, RX7, TX7, 3, rfl, rfl, by decide, vm_r23 _ (List.mem_of_getElem? (i := 7) rfl)⟩
theorem vm_f27 : vm_ff 8 14 7 0 := ⟨RX8, RX8, TX8, 5, rfl, rfl, by decide, vm_r3 _ (List.mem_of_getElem? (i := 17) rfl)⟩
theorem vm_f28 : vm_ff 8 20 7 1 := ⟨RX8, RX8, TX8, 5, rfl, rfl, by decide, vm_r3 _ (List.mem_of_getElem? (i := 18) rfl)⟩
theorem vm_f29 : vm_ff 8 23 7 2 := ⟨RX8, RX8, TX8, 5, rfl, rfl, by decide, vm_r3 _ (List.mem_of_getElem? (i := 19) rfl)⟩
theorem vm_f30 : vm_ff 8 26 7 3 := ⟨RX8, RX8, TX8, 5, rfl, rfl, by decide, vm_r3 _ (List.mem_of_getElem? (i := 20) rfl)⟩
theorem vm_f31 : vm_ff 8 29 7 4 := ⟨RX8, RX8, TX8, 5, rfl, rfl, by decide, vm_r9 _ (List.mem_of_getElem? (i := 13) rfl)⟩
theorem vm_f32 : vm_ff 9 14 8 1 := ⟨RX9, RX9, TX9, 5, rfl, rfl, by decide, vm_r5 _ (List.mem_of_getElem? (i := 17) rfl)⟩
theorem vm_f33 : vm_ff 9 20 8 2 := ⟨RX9, RX9, TX9, 5, rfl, rfl, by decide, vm_r5 _ (List.mem_of_getElem? (i := 18) rfl)⟩
theorem vm_f34 : vm_ff 9 23 8 0 := ⟨RX9, RX9, TX9, 5, rfl, rfl, by decide, vm_r5 _ (List.mem_of_getElem? (i := 19) rfl)⟩
theorem vm_f35 : vm_ff 9 39 8 3 := ⟨RX9, RX9, TX9, 5, rfl, rfl, by decide, vm_r33 _ (List.mem_of_getElem? (i := 21) rfl)⟩
theorem vm_f36 : vm_ff 9 52 8 4 := ⟨RX9, RX9, TX9, 5, rfl, rfl, by decide, vm_r33 _ (List.mem_of_getElem? (i := 22) rfl)⟩
theorem vm_f37 : vm_ff 10 14 9 0 := ⟨RX10, RX10, TX10, 12, rfl, rfl, by decide, vm_r1 _ (List.mem_of_getElem? (i := 15) rfl)⟩
theorem vm_f38 : vm_ff 10 18 9 1 := ⟨RX10, RX10, TX10, 12, rfl, rfl, by decide, vm_r1 _ (List.mem_of_getElem? (i := 16) rfl)⟩
theorem vm_f39 : vm_ff 10 24 9 2 := ⟨RX10, RX10, TX10, 12, rfl, rfl, by decide, vm_r1 _ (List.mem_of_getElem? (i := 20) rfl)⟩
theorem vm_f40 : vm_ff 10 33 9 3 := ⟨RX10, RX10, TX10, 12, rfl, rfl, by decide, vm_r2 _ (List.mem_of_getElem? (i := 0) rfl)⟩
theorem vm_f41 : vm_ff 10 37 9 4 := ⟨RX10, RX10, TX10, 12, rfl, rfl, by decide, vm_r2 _ (List.mem_of_getElem? (i := 1) rfl)⟩
theorem vm_f42 : vm_ff 10 45 9 5 := ⟨RX10, RX10, TX10, 12, rfl, rfl, by decide, vm_r2 _ (List.mem_of_getElem? (i := 5) rfl)⟩
theorem vm_f43 : vm_ff 10 49 9 6 := ⟨RX10, RX10, TX10, 12, rfl, rfl, by decide, vm_r2 _ (List.mem_of_getElem? (i := 6) rfl)⟩
theorem vm_f44 : vm_ff 10 57 9 7 := ⟨RX10, RX10, TX10, 12, rfl, rfl, by decide, vm_r2 _ (List.mem_of_getElem? (i := 10) rfl)⟩
theorem vm_f45 : vm_ff 10 64 9 8 := ⟨RX10, RX10, TX10, 12, rfl, rfl, by decide, vm_r2 _ (List.mem_of_getElem? (i := 14) rfl)⟩
theorem vm_f46 : vm_ff 10 71 9 9 := ⟨RX10, RX10, TX10, 12, rfl, rfl, by decide, vm_r2 _ (List.mem_of_getElem? (i := 18) rfl)⟩
theorem vm_f47 : vm_ff 10 78 9 10 := ⟨RX10, RX10, TX10, 12, rfl, rfl, by decide, vm_r2 _ (List.mem_of_getElem? (i := 22) rfl)⟩
theorem vm_f48 : vm_ff 10 85 9 11 := ⟨RX10, RX10, TX10, 12, rfl, rfl, by decide, vm_r3 _ (List.mem_of_getElem? (i := 2) rfl)⟩
theorem vm_f49 : vm_ff 11 7 10 0 := ⟨RX11, RX11, TX11, 23, rfl, rfl, by decide, vm_r14 _ (List.mem_of_getElem? (i := 14) rfl)⟩
theorem vm_f50 : vm_ff 11 13 10 1 := ⟨RX11, RX11, TX11, 23, rfl, rfl, by decide, vm_r14 _ (List.mem_of_getElem? (i := 15) rfl)⟩
theorem vm_f51 : vm_ff 11 16 10 2 := ⟨RX11, RX11, TX11, 23, rfl, rfl, by decide, vm_r14 _ (List.mem_of_getElem? (i := 16) rfl)⟩
theorem vm_f52 : vm_ff 11 19 10 3 := ⟨RX11, RX11, TX11, 23, rfl, rfl, by decide, vm_r14 _ (List.mem_of_getElem? (i := 17) rfl)⟩
theorem vm_f53 : vm_ff 11 22 10 4 := ⟨RX11, RX11, TX11, 23, rfl, rfl, by decide, vm_r14 _ (List.mem_of_getElem? (i := 18) rfl)⟩
theorem vm_f54 : vm_ff 11 25 10 6 := ⟨RX11, RX11, TX11, 23, rfl, rfl, by decide, vm_r14 _ (List.mem_of_getElem? (i := 19) rfl)⟩
theorem vm_f55 : vm_ff 11 28 10 8 := ⟨RX11, RX11, TX11, 23, rfl, rfl, by decide, vm_r14 _ (List.mem_of_getElem? (i := 20) rfl)⟩
theorem vm_f56 : vm_ff 11 31 10 10 := ⟨RX11, RX11, TX11, 23, rfl, rfl, by decide, vm_r14 _ (List.mem_of_getElem? (i := 21) rfl)⟩
theorem vm_f57 : vm_ff 11 34 10 14 := ⟨RX11, RX11, TX11, 23, rfl, rfl, by decide, vm_r14 _ (List.mem_of_getElem? (i := 22) rfl)⟩
theorem vm_f58 : vm_ff 11 37 10 15 := ⟨RX11, RX11, TX11, 23, rfl, rfl, by decide, vm_r14 _ (List.mem_of_getElem? (i := 23) rfl)⟩
theorem vm_f59 : vm_ff 11 40 10 16 := ⟨RX11, RX11, TX11, 23, rfl, rfl, by decide, vm_r15 _ (List.mem_of_getElem? (i := 0) rfl)⟩
theorem vm_f60 : vm_ff 11 43 10 17 := ⟨RX11, RX11, TX11, 23, rfl, rfl, by decide, vm_r15 _ (List.mem_of_getElem? (i := 1) rfl)⟩
theorem vm_f61 : vm_ff 11 46 10 18 := ⟨RX11, RX11, TX11, 23, rfl, rfl, by decide, vm_r15 _ (List.mem_of_getElem? (i := 2) rfl)⟩
theorem vm_f62 : vm_ff 11 49 10 19 := ⟨RX11, RX11, TX11, 23, rfl, rfl, by decide, vm_r15 _ (List.mem_of_getElem? (i := 3) rfl)⟩
theorem vm_f63 : vm_ff 11 52 10 20 := ⟨RX11, RX11, TX11, 23, rfl, rfl, by decide, vm_r15 _ (List.mem_of_getElem? (i := 4) rfl)⟩
theorem vm_f64 : vm_ff 11 55 10 21 := ⟨RX11, RX11, TX11, 23, rfl, rfl, by decide, vm_r15 _ (List.mem_of_getElem? (i := 5) rfl)⟩
theorem vm_f65 : vm_ff 11 58 10 22 := ⟨RX11, RX11, TX11, 23, rfl, rfl, by decide, vm_r15 _ (List.mem_of_getElem? (i := 6) rfl)⟩
theorem vm_f66 : vm_ff 11 72 10 5 := ⟨RX11, RX11, TX11, 23, rfl, rfl, by decide, vm_r15 _ (List.mem_of_getElem? (i := 17) rfl)⟩
theorem vm_f67 : vm_ff 11 76 10 7 := ⟨RX11, RX11, TX11, 23, rfl, rfl, by decide, vm_r15 _ (List.mem_of_getElem? (i := 18) rfl)⟩
theorem vm_f68 : vm_ff 11 79 10 9 := ⟨RX11, RX11, TX11, 23, rfl, rfl, by decide, vm_r15 _ (List.mem_of_getElem? (i := 19) rfl)⟩
theorem vm_f69 : vm_ff 11 90 10 11 := ⟨RX11, RX11, TX11, 23, rfl, rfl, by decide, vm_r16 _ (List.mem_of_getElem? (i := 9) rfl)⟩
theorem vm_f70 : vm_ff 11 93 10 12 := ⟨RX11, RX11, TX11, 23, rfl, rfl, by decide, vm_r17 _ (List.mem_of_getElem? (i := 9) rfl)⟩
theorem vm_f71 : vm_ff 11 108 10 13 := ⟨RX11, RX11, TX11, 23, rfl, rfl, by decide, vm_r18 _ (List.mem_of_getElem? (i := 7) rfl)⟩
set_option maxRecDepth 100000 in
def vm_fT : List (Nat × Nat × Nat × Nat) := [(0, 16, 0, 1), (0, 20, 0, 0), (0, 27, 0, 2), (1, 14, 1, 1), (1, 20, 1, 2), (1, 23, 1, 0), (3, 14, 2, 1), (3, 20, 2, 2), (3, 23, 2, 0), (3, 33, 2, 3), (3, 43, 2, 4), (4, 16, 3, 1), (4, 20, 3, 2), (4, 23, 3, 3), (4, 26, 3, 4), (4, 29, 3, 5), (4, 32, 3, 0), (5, 16, 4, 1), (5, 23, 4, 2), (5, 32, 4, 3), (5, 36, 4, 0), (5, 51, 4, 4), (6, 15, 5, 0), (6, 21, 5, 1), (7, 15, 6, 0), (7, 24, 6, 2), (7, 32, 6, 1), (8, 14, 7, 0), (8, 20, 7, 1), (8, 23, 7, 2), (8, 26, 7, 3), (8, 29, 7, 4), (9, 14, 8, 1), (9, 20, 8, 2), (9, 23, 8, 0), (9, 39, 8, 3), (9, 52, 8, 4), (10, 14, 9, 0), (10, 18, 9, 1), (10, 24, 9, 2), (10, 33, 9, 3), (10, 37, 9, 4), (10, 45, 9, 5), (10, 49, 9, 6), (10, 57, 9, 7), (10, 64, 9, 8), (10, 71, 9, 9), (10, 78, 9, 10), (10, 85, 9, 11), (11, 7, 10, 0), (11, 13, 10, 1), (11, 16, 10, 2), (11, 19, 10, 3), (11, 22, 10, 4), (11, 25, 10, 6), (11, 28, 10, 8), (11, 31, 10, 10), (11, 34, 10, 14), (11, 37, 10, 15), (11, 40, 10, 16), (11, 43, 10, 17), (11, 46, 10, 18), (11, 49, 10, 19), (11, 52, 10, 20), (11, 55, 10, 21), (11, 58, 10, 22), (11, 72, 10, 5), (11, 76, 10, 7), (11, 79, 10, 9), (11, 90, 10, 11), (11, 93, 10, 12), (11, 108, 10, 13)]
theorem vm_fT_0 : ∀ q ∈ ([(0, 16, 0, 1), (0, 20, 0, 0), (0, 27, 0, 2), (1, 14, 1, 1), (1, 20, 1, 2), (1, 23, 1, 0), (3, 14, 2, 1), (3, 20, 2, 2), (3, 23, 2, 0), (3, 33, 2, 3), (3, 43, 2, 4), (4, 16, 3, 1), (4, 20, 3, 2), (4, 23, 3, 3), (4, 26, 3, 4), (4, 29, 3, 5)] : List (Nat × Nat × Nat × Nat)), vm_ff q.1 q.2.1 q.2.2.1 q.2.2.2 := List.forall_mem_cons.mpr ⟨vm_f0, List.forall_mem_cons.mpr ⟨vm_f1, List.forall_mem_cons.mpr ⟨vm_f2, List.forall_mem_cons.mpr ⟨vm_f3, List.forall_mem_cons.mpr ⟨vm_f4, List.forall_mem_cons.mpr ⟨vm_f5, List.forall_mem_cons.mpr ⟨vm_f6, List.forall_mem_cons.mpr ⟨vm_f7, List.forall_mem_cons.mpr ⟨vm_f8, List.forall_mem_cons.mpr ⟨vm_f9, List.forall_mem_cons.mpr ⟨vm_f10, List.forall_mem_cons.mpr ⟨vm_f11, List.forall_mem_cons.mpr ⟨vm_f12, List.forall_mem_cons.mpr ⟨vm_f13, List.forall_mem_cons.mpr ⟨vm_f14, List.forall_mem_cons.mpr ⟨vm_f15, fun _ h => absurd h List.not_mem_nil⟩⟩⟩⟩⟩⟩⟩⟩⟩⟩⟩⟩⟩⟩⟩⟩
theorem vm_fT_1 : ∀ q ∈ ([(4, 32, 3, 0), (5, 16, 4, 1), (5, 23, 4, 2), (5, 32, 4, 3), (5, 36, 4, 0), (5, 51, 4, 4), (6, 15, 5, 0), (6, 21, 5, 1), (7, 15, 6, 0), (7, 24, 6, 2), (7, 32, 6, 1), (8, 14, 7, 0), (8, 20, 7, 1), (8, 23, 7, 2), (8, 26, 7, 3), (8, 29, 7, 4)] : List (Nat × Nat × Nat × Nat)), vm_ff q.1 q.2.1 q.2.2.1 q.2.2.2 := List.forall_mem_cons.mpr ⟨vm_f16, List.forall_mem_cons.mpr ⟨vm_f17, List.forall_mem_cons.mpr ⟨vm_f18, List.forall_mem_cons.mpr ⟨vm_f19, List.forall_mem_cons.mpr ⟨vm_f20, List.forall_mem_cons.mpr ⟨vm_f21, List.forall_mem_cons.mpr ⟨vm_f22, List.forall_mem_cons.mpr ⟨vm_f23, List.forall_mem_cons.mpr ⟨vm_f24, List.forall_mem_cons.mpr ⟨vm_f25, List.forall_mem_cons.mpr ⟨vm_f26, List.forall_mem_cons.mpr ⟨vm_f27, List.forall_mem_cons.mpr ⟨vm_f28, List.forall_mem_cons.mpr ⟨vm_f29, List.forall_mem_cons.mpr ⟨vm_f30, List.forall_mem_cons.mpr ⟨vm_f31, fun _ h => absurd h List.not_mem_nil⟩⟩⟩⟩⟩⟩⟩⟩⟩⟩⟩⟩⟩⟩⟩⟩
theorem vm_fT_2 : ∀ q ∈ ([(9, 14, 8, 1), (9, 20, 8, 2), (9, 23, 8, 0), (9, 39, 8, 3), (9, 52, 8, 4), (10, 14, 9, 0), (10, 18, 9, 1), (10, 24, 9, 2), (10, 33, 9, 3), (10, 37, 9, 4), (10, 45, 9, 5), (10, 49, 9, 6), (10, 57, 9, 7), (10, 64, 9, 8), (10, 71, 9, 9), (10, 78, 9, 10)] : List (Nat × Nat × Nat × Nat)), vm_ff q.1 q.2.1 q.2.2.1 q.2.2.2 := List.forall_mem_cons.mpr ⟨vm_f32, List.forall_mem_cons.mpr ⟨vm_f33, List.forall_mem_cons.mpr ⟨vm_f34, List.forall_mem_cons.mpr ⟨vm_f35, List.forall_mem_cons.mpr ⟨vm_f36, List.forall_mem_cons.mpr ⟨vm_f37, List.forall_mem_cons.mpr ⟨vm_f38, List.forall_mem_cons.mpr ⟨vm_f39, List.forall_mem_cons.mpr ⟨vm_f40, List.forall_mem_cons.mpr ⟨vm_f41, List.forall_mem_cons.mpr ⟨vm_f42, List.forall_mem_cons.mpr ⟨vm_f43, List.forall_mem_cons.mpr ⟨vm_f44, List.forall_mem_cons.mpr ⟨vm_f45, List.forall_mem_cons.mpr ⟨vm_f46, List.forall_mem_cons.mpr ⟨vm_f47, fun _ h => absurd h List.not_mem_nil⟩⟩⟩⟩⟩⟩⟩⟩⟩⟩⟩⟩⟩⟩⟩⟩
theorem vm_fT_3 : ∀ q ∈ ([(10, 85, 9, 11), (11, 7, 10, 0), (11, 13, 10, 1), (11, 16, 10, 2), (11, 19, 10, 3), (11, 22, 10, 4), (11, 25, 10, 6), (11, 28, 10, 8), (11, 31, 10, 10), (11, 34, 10, 14), (11, 37, 10, 15), (11, 40, 10, 16), (11, 43, 10, 17), (11, 46, 10, 18), (11, 49, 10, 19), (11, 52, 10, 20)] : List (Nat × Nat × Nat × Nat)), vm_ff q.1 q.2.1 q.2.2.1 q.2.2.2 := List.forall_mem_cons.mpr ⟨vm_f48, List.forall_mem_cons.mpr ⟨vm_f49, List.forall_mem_cons.mpr ⟨vm_f50, List.forall_mem_cons.mpr ⟨vm_f51, List.forall_mem_cons.mpr ⟨vm_f52, List.forall_mem_cons.mpr ⟨vm_f53, List.forall_mem_cons.mpr ⟨vm_f54, List.forall_mem_cons.mpr ⟨vm_f55, List.forall_mem_cons.mpr ⟨vm_f56, List.forall_mem_cons.mpr ⟨vm_f57, List.forall_mem_cons.mpr ⟨vm_f58, List.forall_mem_cons.mpr ⟨vm_f59, List.forall_mem_cons.mpr ⟨vm_f60, List.forall_mem_cons.mpr ⟨vm_f61, List.forall_mem_cons.mpr ⟨vm_f62, List.forall_mem_cons.mpr ⟨vm_f63, fun _ h => absurd h List.not_mem_nil⟩⟩⟩⟩⟩⟩⟩⟩⟩⟩⟩⟩⟩⟩⟩⟩
theorem vm_fT_4 : ∀ q ∈ ([(11, 55, 10, 21), (11, 58, 10, 22), (11, 72, 10, 5), (11, 76, 10, 7), (11, 79, 10, 9), (11, 90, 10, 11), (11, 93, 10, 12), (11, 108, 10, 13)] : List (Nat × Nat × Nat × Nat)), vm_ff q.1 q.2.1 q.2.2.1 q.2.2.2 := List.forall_mem_cons.mpr ⟨vm_f64, List.forall_mem_cons.mpr ⟨vm_f65, List.forall_mem_cons.mpr ⟨vm_f66, List.forall_mem_cons.mpr ⟨vm_f67, List.forall_mem_cons.mpr ⟨vm_f68, List.forall_mem_cons.mpr ⟨vm_f69, List.forall_mem_cons.mpr ⟨vm_f70, List.forall_mem_cons.mpr ⟨vm_f71, fun _ h => absurd h List.not_mem_nil⟩⟩⟩⟩⟩⟩⟩⟩
set_option maxRecDepth 100000 in
theorem vm_fT_eq : vm_fT = [(0, 16, 0, 1), (0, 20, 0, 0), (0, 27, 0, 2), (1, 14, 1, 1), (1, 20, 1, 2), (1, 23, 1, 0), (3, 14, 2, 1), (3, 20, 2, 2), (3, 23, 2, 0), (3, 33, 2, 3), (3, 43, 2, 4), (4, 16, 3, 1), (4, 20, 3, 2), (4, 23, 3, 3), (4, 26, 3, 4), (4, 29, 3, 5)] ++ ([(4, 32, 3, 0), (5, 16, 4, 1), (5, 23, 4, 2), (5, 32, 4, 3), (5, 36, 4, 0), (5, 51, 4, 4), (6, 15, 5, 0), (6, 21, 5, 1), (7, 15, 6, 0), (7, 24, 6, 2), (7, 32, 6, 1), (8, 14, 7, 0), (8, 20, 7, 1), (8, 23, 7, 2), (8, 26, 7, 3), (8, 29, 7, 4)] ++ ([(9, 14, 8, 1), (9, 20, 8, 2), (9, 23, 8, 0), (9, 39, 8, 3), (9, 52, 8, 4), (10, 14, 9, 0), (10, 18, 9, 1), (10, 24, 9, 2), (10, 33, 9, 3), (10, 37, 9, 4), (10, 45, 9, 5), (10, 49, 9, 6), (10, 57, 9, 7), (10, 64, 9, 8), (10, 71, 9, 9), (10, 78, 9, 10)] ++ ([(10, 85, 9, 11), (11, 7, 10, 0), (11, 13, 10, 1), (11, 16, 10, 2), (11, 19, 10, 3), (11, 22, 10, 4), (11, 25, 10, 6), (11, 28, 10, 8), (11, 31, 10, 10), (11, 34, 10, 14), (11, 37, 10, 15), (11, 40, 10, 16), (11, 43, 10, 17), (11, 46, 10, 18), (11, 49, 10, 19), (11, 52, 10, 20)] ++ ([(11, 55, 10, 21), (11, 58, 10, 22), (11, 72, 10, 5), (11, 76, 10, 7), (11, 79, 10, 9), (11, 90, 10, 11), (11, 93, 10, 12), (11, 108, 10, 13)])))) := rfl
theorem vm_fT_ok : ∀ q ∈ vm_fT, vm_ff q.1 q.2.1 q.2.2.1 q.2.2.2 := by
  rw [vm_fT_eq]
  exact List.forall_mem_append.mpr ⟨vm_fT_0, List.forall_mem_append.mpr ⟨vm_fT_1, List.forall_mem_append.mpr ⟨vm_fT_2, List.forall_mem_append.mpr ⟨vm_fT_3, vm_fT_4⟩⟩⟩⟩
def vm_nest : List (String × Nat × MethodName × String) := [(RX10, 23, yX8_init, "EmberTale"), (RX5, 22, yX8_init, "EmberTale"), (RX8, 51, yX10_within, "EmberTale"), (RX0, 49, yX10_within, "EmberTale"), (RX8, 63, yX10_isWood, "EmberTale")]
def vm_link (own : String) (i a : Nat) (r : vm_M) : Prop := match a with
  | 0 => Cond.methodLink own i r.2.1 ∈ vm_G ∧ Cond.instanceMethod r.2.1 ∈ vm_G ∧ Cond.selects r.2.1.cls r.2.1 r.2.1 ∈ vm_G
  | 1 => Cond.methodLink own i r.2.1 ∈ vm_G ∧ Cond.static r.2.1 ∈ vm_G
  | 2 => Cond.methodLink own i r.2.1 ∈ vm_G ∧ Cond.instanceMethod r.2.1 ∈ vm_G ∧ r.2.1.name = "<init>" ∧ r.2.2.2.2.1 = none
  | 3 => (∃ h, (own, i, r.2.1, h) ∈ vm_nest) ∧ Cond.static r.2.1 ∈ vm_G
  | 4 => (∃ h, (own, i, r.2.1, h) ∈ vm_nest) ∧ Cond.instanceMethod r.2.1 ∈ vm_G ∧ r.2.1.name = "<init>" ∧ r.2.2.2.2.1 = none
  | 5 => Cond.methodLink own i objectInit ∈ vm_G
  | 6 => Cond.methodLink own i yJ0_length_8abf5 ∈ vm_G
  | 7 => Cond.methodLink own i yJ0_charAt_5068e ∈ vm_G
  | _ => False
/-- a call's row: own class, index, kind, callee, arguments + 100 × the receiver's class -/
def vm_cf (o i a b c : Nat) : Prop := ∃ (own : String) (r : vm_M), vm_nm[o]? = some own ∧ vm_MT[b]? = some r ∧ vm_link own i a r ∧ (a < 5 → (parseMethodDescriptor r.2.1.desc).map (fun d => d.parameters.length) = some (c % 100)) ∧ (a = 0 → (vwCl[c / 100]?).map (fun x => x.1) = some r.2.1.cls)
theorem vm_l0 : vm_cf 0 3 5 0 0 := ⟨RX0, vm_m0, rfl, rfl, vm_r4 _ (List.mem_of_getElem? (i := 1) rfl), fun h => absurd h (by decide), fun h => absurd h (by decide)⟩
theorem vm_l1 : vm_cf 0 13 2 54 1 := ⟨RX0, vm_m54, rfl, rfl, ⟨vm_r4 _ (List.mem_of_getElem? (i := 5) rfl), vm_r3 _ (List.mem_of_getElem? (i := 4) rfl), rfl, rfl⟩, fun _ => by decide +kernel, fun h => absurd h (by decide)⟩
theorem vm_l2 : vm_cf 0 24 0 57 500 := ⟨RX0, vm_m57, rfl, rfl, ⟨vm_r9 _ (List.mem_of_getElem? (i := 23) rfl), vm_r9 _ (List.mem_of_getElem? (i := 15) rfl), vm_r9 _ (List.mem_of_getElem? (i := 16) rfl)⟩, fun _ => by decide +kernel, fun _ => by decide +kernel⟩
theorem vm_l3 : vm_cf 0 31 0 62 501 := ⟨RX0, vm_m62, rfl, rfl, ⟨vm_r14 _ (List.mem_of_getElem? (i := 3) rfl), vm_r13 _ (List.mem_of_getElem? (i := 12) rfl), vm_r13 _ (List.mem_of_getElem? (i := 13) rfl)⟩, fun _ => by decide +kernel, fun _ => by decide +kernel⟩
theorem vm_l4 : vm_cf 0 35 0 56 500 := ⟨RX0, vm_m56, rfl, rfl, ⟨vm_r12 _ (List.mem_of_getElem? (i := 5) rfl), vm_r11 _ (List.mem_of_getElem? (i := 6) rfl), vm_r11 _ (List.mem_of_getElem? (i := 7) rfl)⟩, fun _ => by decide +kernel, fun _ => by decide +kernel⟩
theorem vm_l5 : vm_cf 0 39 0 59 501 := ⟨RX0, vm_m59, rfl, rfl, ⟨vm_r12 _ (List.mem_of_getElem? (i := 6) rfl), vm_r10 _ (List.mem_of_getElem? (i := 13) rfl), vm_r10 _ (List.mem_of_getElem? (i := 14) rfl)⟩, fun _ => by decide +kernel, fun _ => by decide +kernel⟩
theorem vm_l6 : vm_cf 0 43 0 76 701 := ⟨RX0, vm_m76, rfl, rfl, ⟨vm_r12 _ (List.mem_of_getElem? (i := 7) rfl), vm_r12 _ (List.mem_of_getElem? (i := 8) rfl), vm_r12 _ (List.mem_of_getElem? (i := 9) rfl)⟩, fun _ => by decide +kernel, fun _ => by decide +kernel⟩
theorem vm_l7 : vm_cf 0 49 3 126 3 := ⟨RX0, vm_m126, rfl, rfl, ⟨⟨"EmberTale", List.mem_of_getElem? (i := 3) rfl⟩, vm_r11 _ (List.mem_of_getElem? (i := 23) rfl)⟩, fun _ => by decide +kernel, fun h => absurd h (by decide)⟩
theorem vm_l8 : vm_cf 0 53 0 58 501 := ⟨RX0, vm_m58, rfl, rfl, ⟨vm_r12 _ (List.mem_of_getElem? (i := 11) rfl), vm_r8 _ (List.mem_of_getElem? (i := 20) rfl), vm_r8 _ (List.mem_of_getElem? (i := 21) rfl)⟩, fun _ => by decide +kernel, fun _ => by decide +kernel⟩
theorem vm_l9 : vm_cf 0 56 0 55 500 := ⟨RX0, vm_m55, rfl, rfl, ⟨vm_r12 _ (List.mem_of_getElem? (i := 20) rfl), vm_r10 _ (List.mem_of_getElem? (i := 1) rfl), vm_r10 _ (List.mem_of_getElem? (i := 2) rfl)⟩, fun _ => by decide +kernel, fun _ => by decide +kernel⟩
theorem vm_l10 : vm_cf 0 60 0 4 0 := ⟨RX0, vm_m4, rfl, rfl, ⟨vm_r22 _ (List.mem_of_getElem? (i := 1) rfl), vm_r12 _ (List.mem_of_getElem? (i := 17) rfl), vm_r12 _ (List.mem_of_getElem? (i := 18) rfl)⟩, fun _ => by decide +kernel, fun _ => by decide +kernel⟩
theorem vm_l11 : vm_cf 0 63 0 60 502 := ⟨RX0, vm_m60, rfl, rfl, ⟨vm_r24 _ (List.mem_of_getElem? (i := 6) rfl), vm_r24 _ (List.mem_of_getElem? (i := 7) rfl), vm_r24 _ (List.mem_of_getElem? (i := 8) rfl)⟩, fun _ => by decide +kernel, fun _ => by decide +kernel⟩
theorem vm_l12 : vm_cf 0 67 0 7 2 := ⟨RX0, vm_m7, rfl, rfl, ⟨vm_r23 _ (List.mem_of_getElem? (i := 2) rfl), vm_r22 _ (List.mem_of_getElem? (i := 3) rfl), vm_r22 _ (List.mem_of_getElem? (i := 4) rfl)⟩, fun _ => by decide +kernel, fun _ => by decide +kernel⟩
theorem vm_l13 : vm_cf 0 70 0 8 3 := ⟨RX0, vm_m8, rfl, rfl, ⟨vm_r24 _ (List.mem_of_getElem? (i := 2) rfl), vm_r24 _ (List.mem_of_getElem? (i := 3) rfl), vm_r24 _ (List.mem_of_getElem? (i := 4) rfl)⟩, fun _ => by decide +kernel, fun _ => by decide +kernel⟩
theorem vm_l14 : vm_cf 0 73 0 10 1 := ⟨RX0, vm_m10, rfl, rfl, ⟨vm_r22 _ (List.mem_of_getElem? (i := 22) rfl), vm_r22 _ (List.mem_of_getElem? (i := 23) rfl), vm_r23 _ (List.mem_of_getElem? (i := 0) rfl)⟩, fun _ => by decide +kernel, fun _ => by decide +kernel⟩
theorem vm_l15 : vm_cf 0 76 0 9 3 := ⟨RX0, vm_m9, rfl, rfl, ⟨vm_r23 _ (List.mem_of_getElem? (i := 22) rfl), vm_r23 _ (List.mem_of_getElem? (i := 23) rfl), vm_r24 _ (List.mem_of_getElem? (i := 0) rfl)⟩, fun _ => by decide +kernel, fun _ => by decide +kernel⟩
theorem vm_l16 : vm_cf 0 79 1 30 2 := ⟨RX0, vm_m30, rfl, rfl, ⟨vm_r24 _ (List.mem_of_getElem? (i := 10) rfl), vm_r24 _ (List.mem_of_getElem? (i := 11) rfl)⟩, fun _ => by decide +kernel, fun h => absurd h (by decide)⟩
theorem vm_l17 : vm_cf 0 84 0 13 2 := ⟨RX0, vm_m13, rfl, rfl, ⟨vm_r24 _ (List.mem_of_getElem? (i := 21) rfl), vm_r24 _ (List.mem_of_getElem? (i := 22) rfl), vm_r24 _ (List.mem_of_getElem? (i := 23) rfl)⟩, fun _ => by decide +kernel, fun _ => by decide +kernel⟩
theorem vm_l18 : vm_cf 0 87 0 78 702 := ⟨RX0, vm_m78, rfl, rfl, ⟨vm_r25 _ (List.mem_of_getElem? (i := 1) rfl), vm_r19 _ (List.mem_of_getElem? (i := 21) rfl), vm_r19 _ (List.mem_of_getElem? (i := 22) rfl)⟩, fun _ => by decide +kernel, fun _ => by decide +kernel⟩
theorem vm_l19 : vm_cf 0 90 0 80 701 := ⟨RX0, vm_m80, rfl, rfl, ⟨vm_r26 _ (List.mem_of_getElem? (i := 7) rfl), vm_r21 _ (List.mem_of_getElem? (i := 1) rfl), vm_r21 _ (List.mem_of_getElem? (i := 2) rfl)⟩, fun _ => by decide +kernel, fun _ => by decide +kernel⟩
theorem vm_l20 : vm_cf 0 93 1 31 3 := ⟨RX0, vm_m31, rfl, rfl, ⟨vm_r26 _ (List.mem_of_getElem? (i := 8) rfl), vm_r26 _ (List.mem_of_getElem? (i := 9) rfl)⟩, fun _ => by decide +kernel, fun h => absurd h (by decide)⟩
theorem vm_l21 : vm_cf 0 97 1 203 2 := ⟨RX0, vm_m203, rfl, rfl, ⟨vm_r28 _ (List.mem_of_getElem? (i := 18) rfl), vm_r24 _ (List.mem_of_getElem? (i := 15) rfl)⟩, fun _ => by decide +kernel, fun h => absurd h (by decide)⟩
theorem vm_l22 : vm_cf 0 102 0 14 0 := ⟨RX0, vm_m14, rfl, rfl, ⟨vm_r42 _ (List.mem_of_getElem? (i := 23) rfl), vm_r26 _ (List.mem_of_getElem? (i := 4) rfl), vm_r26 _ (List.mem_of_getElem? (i := 5) rfl)⟩, fun _ => by decide +kernel, fun _ => by decide +kernel⟩
theorem vm_l23 : vm_cf 0 105 0 15 2 := ⟨RX0, vm_m15, rfl, rfl, ⟨vm_r43 _ (List.mem_of_getElem? (i := 0) rfl), vm_r27 _ (List.mem_of_getElem? (i := 16) rfl), vm_r27 _ (List.mem_of_getElem? (i := 17) rfl)⟩, fun _ => by decide +kernel, fun _ => by decide +kernel⟩
theorem vm_l24 : vm_cf 0 109 0 16 2 := ⟨RX0, vm_m16, rfl, rfl, ⟨vm_r43 _ (List.mem_of_getElem? (i := 1) rfl), vm_r27 _ (List.mem_of_getElem? (i := 20) rfl), vm_r27 _ (List.mem_of_getElem? (i := 21) rfl)⟩, fun _ => by decide +kernel, fun _ => by decide +kernel⟩
theorem vm_l25 : vm_cf 0 112 0 11 2 := ⟨RX0, vm_m11, rfl, rfl, ⟨vm_r43 _ (List.mem_of_getElem? (i := 2) rfl), vm_r22 _ (List.mem_of_getElem? (i := 19) rfl), vm_r22 _ (List.mem_of_getElem? (i := 20) rfl)⟩, fun _ => by decide +kernel, fun _ => by decide +kernel⟩
theorem vm_l26 : vm_cf 0 115 0 12 2 := ⟨RX0, vm_m12, rfl, rfl, ⟨vm_r43 _ (List.mem_of_getElem? (i := 3) rfl), vm_r23 _ (List.mem_of_getElem? (i := 19) rfl), vm_r23 _ (List.mem_of_getElem? (i := 20) rfl)⟩, fun _ => by decide +kernel, fun _ => by decide +kernel⟩
theorem vm_l27 : vm_cf 1 3 5 0 0 := ⟨RX1, vm_m0, rfl, rfl, vm_r6 _ (List.mem_of_getElem? (i := 12) rfl), fun h => absurd h (by decide), fun h => absurd h (by decide)⟩
theorem vm_l28 : vm_cf 1 11 2 54 1 := ⟨RX1, vm_m54, rfl, rfl, ⟨vm_r6 _ (List.mem_of_getElem? (i := 17) rfl), vm_r3 _ (List.mem_of_getElem? (i := 4) rfl), rfl, rfl⟩, fun _ => by decide +kernel, fun h => absurd h (by decide)⟩
theorem vm_l29 : vm_cf 1 27 0 61 501 := ⟨RX1, vm_m61, rfl, rfl, ⟨vm_r41 _ (List.mem_of_getElem? (i := 6) rfl), vm_r31 _ (List.mem_of_getElem? (i := 19) rfl), vm_r31 _ (List.mem_of_getElem? (i := 20) rfl)⟩, fun _ => by decide +kernel, fun _ => by decide +kernel⟩
theorem vm_l30 : vm_cf 1 32 0 7 2 := ⟨RX1, vm_m7, rfl, rfl, ⟨vm_r41 _ (List.mem_of_getElem? (i := 7) rfl), vm_r22 _ (List.mem_of_getElem? (i := 3) rfl), vm_r22 _ (List.mem_of_getElem? (i := 4) rfl)⟩, fun _ => by decide +kernel, fun _ => by decide +kernel⟩
theorem vm_l31 : vm_cf 1 36 0 60 502 := ⟨RX1, vm_m60, rfl, rfl, ⟨vm_r41 _ (List.mem_of_getElem? (i := 8) rfl), vm_r24 _ (List.mem_of_getElem? (i := 7) rfl), vm_r24 _ (List.mem_of_getElem? (i := 8) rfl)⟩, fun _ => by decide +kernel, fun _ => by decide +kernel⟩
theorem vm_l32 : vm_cf 1 40 0 5 0 := ⟨RX1, vm_m5, rfl, rfl, ⟨vm_r41 _ (List.mem_of_getElem? (i := 9) rfl), vm_r20 _ (List.mem_of_getElem? (i := 21) rfl), vm_r20 _ (List.mem_of_getElem? (i := 22) rfl)⟩, fun _ => by decide +kernel, fun _ => by decide +kernel⟩
theorem vm_l33 : vm_cf 1 44 0 80 701 := ⟨RX1, vm_m80, rfl, rfl, ⟨vm_r41 _ (List.mem_of_getElem? (i := 10) rfl), vm_r21 _ (List.mem_of_getElem? (i := 1) rfl), vm_r21 _ (List.mem_of_getElem? (i := 2) rfl)⟩, fun _ => by decide +kernel, fun _ => by decide +kernel⟩
theorem vm_l34 : vm_cf 1 50 0 27 103 := ⟨RX1, vm_m27, rfl, rfl, ⟨vm_r41 _ (List.mem_of_getElem? (i := 11) rfl), vm_r41 _ (List.mem_of_getElem? (i := 12) rfl), vm_r41 _ (List.mem_of_getElem? (i := 13) rfl)⟩, fun _ => by decide +kernel, fun _ => by decide +kernel⟩
theorem vm_l35 : vm_cf 1 54 0 59 501 := ⟨RX1, vm_m59, rfl, rfl, ⟨vm_r41 _ (List.mem_of_getElem? (i := 16) rfl), vm_r10 _ (List.mem_of_getElem? (i := 13) rfl), vm_r10 _ (List.mem_of_getElem? (i := 14) rfl)⟩, fun _ => by decide +kernel, fun _ => by decide +kernel⟩
theorem vm_l36 : vm_cf 1 56 1 29 2 := ⟨RX1, vm_m29, rfl, rfl, ⟨vm_r41 _ (List.mem_of_getElem? (i := 22) rfl), vm_r41 _ (List.mem_of_getElem? (i := 23) rfl)⟩, fun _ => by decide +kernel, fun h => absurd h (by decide)⟩
theorem vm_l37 : vm_cf 1 59 1 31 3 := ⟨RX1, vm_m31, rfl, rfl, ⟨vm_r41 _ (List.mem_of_getElem? (i := 15) rfl), vm_r26 _ (List.mem_of_getElem? (i := 9) rfl)⟩, fun _ => by decide +kernel, fun h => absurd h (by decide)⟩
theorem vm_l38 : vm_cf 1 65 0 28 102 := ⟨RX1, vm_m28, rfl, rfl, ⟨vm_r41 _ (List.mem_of_getElem? (i := 17) rfl), vm_r41 _ (List.mem_of_getElem? (i := 18) rfl), vm_r41 _ (List.mem_of_getElem? (i := 19) rfl)⟩, fun _ => by decide +kernel, fun _ => by decide +kernel⟩
theorem vm_l39 : vm_cf 1 68 0 62 501 := ⟨RX1, vm_m62, rfl, rfl, ⟨vm_r41 _ (List.mem_of_getElem? (i := 21) rfl), vm_r13 _ (List.mem_of_getElem? (i := 12) rfl), vm_r13 _ (List.mem_of_getElem? (i := 13) rfl)⟩, fun _ => by decide +kernel, fun _ => by decide +kernel⟩
theorem vm_l40 : vm_cf 2 9 1 32 1 := ⟨RX2, vm_m32, rfl, rfl, ⟨vm_r24 _ (List.mem_of_getElem? (i := 18) rfl), vm_r24 _ (List.mem_of_getElem? (i := 19) rfl)⟩, fun _ => by decide +kernel, fun h => absurd h (by decide)⟩
theorem vm_l41 : vm_cf 2 15 1 203 2 := ⟨RX2, vm_m203, rfl, rfl, ⟨vm_r24 _ (List.mem_of_getElem? (i := 14) rfl), vm_r24 _ (List.mem_of_getElem? (i := 15) rfl)⟩, fun _ => by decide +kernel, fun h => absurd h (by decide)⟩
theorem vm_l42 : vm_cf 2 21 1 202 2 := ⟨RX2, vm_m202, rfl, rfl, ⟨vm_r24 _ (List.mem_of_getElem? (i := 17) rfl), vm_r3 _ (List.mem_of_getElem? (i := 8) rfl)⟩, fun _ => by decide +kernel, fun h => absurd h (by decide)⟩
theorem vm_l43 : vm_cf 3 3 5 0 0 := ⟨RX3, vm_m0, rfl, rfl, vm_r5 _ (List.mem_of_getElem? (i := 6) rfl), fun h => absurd h (by decide), fun h => absurd h (by decide)⟩
theorem vm_l44 : vm_cf 3 11 2 54 1 := ⟨RX3, vm_m54, rfl, rfl, ⟨vm_r5 _ (List.mem_of_getElem? (i := 11) rfl), vm_r3 _ (List.mem_of_getElem? (i := 4) rfl), rfl, rfl⟩, fun _ => by decide +kernel, fun h => absurd h (by decide)⟩
theorem vm_l45 : vm_cf 3 27 0 5 0 := ⟨RX3, vm_m5, rfl, rfl, ⟨vm_r31 _ (List.mem_of_getElem? (i := 14) rfl), vm_r20 _ (List.mem_of_getElem? (i := 21) rfl), vm_r20 _ (List.mem_of_getElem? (i := 22) rfl)⟩, fun _ => by decide +kernel, fun _ => by decide +kernel⟩
theorem vm_l46 : vm_cf 3 37 1 203 2 := ⟨RX3, vm_m203, rfl, rfl, ⟨vm_r31 _ (List.mem_of_getElem? (i := 12) rfl), vm_r24 _ (List.mem_of_getElem? (i := 15) rfl)⟩, fun _ => by decide +kernel, fun h => absurd h (by decide)⟩
theorem vm_l47 : vm_cf 3 45 0 57 500 := ⟨RX3, vm_m57, rfl, rfl, ⟨vm_r31 _ (List.mem_of_getElem? (i := 15) rfl), vm_r9 _ (List.mem_of_getElem? (i := 15) rfl), vm_r9 _ (List.mem_of_getElem? (i := 16) rfl)⟩, fun _ => by decide +kernel, fun _ => by decide +kernel⟩
theorem vm_l48 : vm_cf 3 48 0 7 2 := ⟨RX3, vm_m7, rfl, rfl, ⟨vm_r31 _ (List.mem_of_getElem? (i := 16) rfl), vm_r22 _ (List.mem_of_getElem? (i := 3) rfl), vm_r22 _ (List.mem_of_getElem? (i := 4) rfl)⟩, fun _ => by decide +kernel, fun _ => by decide +kernel⟩
theorem vm_l49 : vm_cf 3 51 0 58 501 := ⟨RX3, vm_m58, rfl, rfl, ⟨vm_r31 _ (List.mem_of_getElem? (i := 17) rfl), vm_r8 _ (List.mem_of_getElem? (i := 20) rfl), vm_r8 _ (List.mem_of_getElem? (i := 21) rfl)⟩, fun _ => by decide +kernel, fun _ => by decide +kernel⟩
theorem vm_l50 : vm_cf 3 54 0 61 501 := ⟨RX3, vm_m61, rfl, rfl, ⟨vm_r31 _ (List.mem_of_getElem? (i := 18) rfl), vm_r31 _ (List.mem_of_getElem? (i := 19) rfl), vm_r31 _ (List.mem_of_getElem? (i := 20) rfl)⟩, fun _ => by decide +kernel, fun _ => by decide +kernel⟩
theorem vm_l51 : vm_cf 3 57 0 36 204 := ⟨RX3, vm_m36, rfl, rfl, ⟨vm_r31 _ (List.mem_of_getElem? (i := 22) rfl), vm_r31 _ (List.mem_of_getElem? (i := 23) rfl), vm_r32 _ (List.mem_of_getElem? (i := 0) rfl)⟩, fun _ => by decide +kernel, fun _ => by decide +kernel⟩
theorem vm_l52 : vm_cf 3 61 0 59 501 := ⟨RX3, vm_m59, rfl, rfl, ⟨vm_r32 _ (List.mem_of_getElem? (i := 10) rfl), vm_r10 _ (List.mem_of_getElem? (i := 13) rfl), vm_r10 _ (List.mem_of_getElem? (i := 14) rfl)⟩, fun _ => by decide +kernel, fun _ => by decide +kernel⟩
theorem vm_l53 : vm_cf 3 64 0 37 204 := ⟨RX3, vm_m37, rfl, rfl, ⟨vm_r32 _ (List.mem_of_getElem? (i := 2) rfl), vm_r32 _ (List.mem_of_getElem? (i := 3) rfl), vm_r32 _ (List.mem_of_getElem? (i := 4) rfl)⟩, fun _ => by decide +kernel, fun _ => by decide +kernel⟩
theorem vm_l54 : vm_cf 3 67 0 60 502 := ⟨RX3, vm_m60, rfl, rfl, ⟨vm_r32 _ (List.mem_of_getElem? (i := 5) rfl), vm_r24 _ (List.mem_of_getElem? (i := 7) rfl), vm_r24 _ (List.mem_of_getElem? (i := 8) rfl)⟩, fun _ => by decide +kernel, fun _ => by decide +kernel⟩
theorem vm_l55 : vm_cf 3 71 0 80 701 := ⟨RX3, vm_m80, rfl, rfl, ⟨vm_r32 _ (List.mem_of_getElem? (i := 6) rfl), vm_r21 _ (List.mem_of_getElem? (i := 1) rfl), vm_r21 _ (List.mem_of_getElem? (i := 2) rfl)⟩, fun _ => by decide +kernel, fun _ => by decide +kernel⟩
theorem vm_l56 : vm_cf 3 76 1 31 3 := ⟨RX3, vm_m31, rfl, rfl, ⟨vm_r32 _ (List.mem_of_getElem? (i := 7) rfl), vm_r26 _ (List.mem_of_getElem? (i := 9) rfl)⟩, fun _ => by decide +kernel, fun h => absurd h (by decide)⟩
theorem vm_l57 : vm_cf 3 82 1 30 2 := ⟨RX3, vm_m30, rfl, rfl, ⟨vm_r32 _ (List.mem_of_getElem? (i := 9) rfl), vm_r24 _ (List.mem_of_getElem? (i := 11) rfl)⟩, fun _ => by decide +kernel, fun h => absurd h (by decide)⟩
theorem vm_l58 : vm_cf 4 3 5 0 0 := ⟨RX4, vm_m0, rfl, rfl, vm_r6 _ (List.mem_of_getElem? (i := 0) rfl), fun h => absurd h (by decide), fun h => absurd h (by decide)⟩
theorem vm_l59 : vm_cf 4 13 2 54 1 := ⟨RX4, vm_m54, rfl, rfl, ⟨vm_r6 _ (List.mem_of_getElem? (i := 8) rfl), vm_r3 _ (List.mem_of_getElem? (i := 4) rfl), rfl, rfl⟩, fun _ => by decide +kernel, fun h => absurd h (by decide)⟩
theorem vm_l60 : vm_cf 4 36 0 57 500 := ⟨RX4, vm_m57, rfl, rfl, ⟨vm_r36 _ (List.mem_of_getElem? (i := 8) rfl), vm_r9 _ (List.mem_of_getElem? (i := 15) rfl), vm_r9 _ (List.mem_of_getElem? (i := 16) rfl)⟩, fun _ => by decide +kernel, fun _ => by decide +kernel⟩
theorem vm_l61 : vm_cf 4 39 0 61 501 := ⟨RX4, vm_m61, rfl, rfl, ⟨vm_r36 _ (List.mem_of_getElem? (i := 9) rfl), vm_r31 _ (List.mem_of_getElem? (i := 19) rfl), vm_r31 _ (List.mem_of_getElem? (i := 20) rfl)⟩, fun _ => by decide +kernel, fun _ => by decide +kernel⟩
theorem vm_l62 : vm_cf 4 42 0 41 304 := ⟨RX4, vm_m41, rfl, rfl, ⟨vm_r36 _ (List.mem_of_getElem? (i := 10) rfl), vm_r36 _ (List.mem_of_getElem? (i := 11) rfl), vm_r36 _ (List.mem_of_getElem? (i := 12) rfl)⟩, fun _ => by decide +kernel, fun _ => by decide +kernel⟩
theorem vm_l63 : vm_cf 4 46 0 55 500 := ⟨RX4, vm_m55, rfl, rfl, ⟨vm_r36 _ (List.mem_of_getElem? (i := 17) rfl), vm_r10 _ (List.mem_of_getElem? (i := 1) rfl), vm_r10 _ (List.mem_of_getElem? (i := 2) rfl)⟩, fun _ => by decide +kernel, fun _ => by decide +kernel⟩
theorem vm_l64 : vm_cf 4 50 0 59 501 := ⟨RX4, vm_m59, rfl, rfl, ⟨vm_r36 _ (List.mem_of_getElem? (i := 14) rfl), vm_r10 _ (List.mem_of_getElem? (i := 13) rfl), vm_r10 _ (List.mem_of_getElem? (i := 14) rfl)⟩, fun _ => by decide +kernel, fun _ => by decide +kernel⟩
theorem vm_l65 : vm_cf 4 54 0 42 301 := ⟨RX4, vm_m42, rfl, rfl, ⟨vm_r36 _ (List.mem_of_getElem? (i := 18) rfl), vm_r36 _ (List.mem_of_getElem? (i := 19) rfl), vm_r36 _ (List.mem_of_getElem? (i := 20) rfl)⟩, fun _ => by decide +kernel, fun _ => by decide +kernel⟩
theorem vm_l66 : vm_cf 4 57 0 79 702 := ⟨RX4, vm_m79, rfl, rfl, ⟨vm_r36 _ (List.mem_of_getElem? (i := 22) rfl), vm_r34 _ (List.mem_of_getElem? (i := 9) rfl), vm_r34 _ (List.mem_of_getElem? (i := 10) rfl)⟩, fun _ => by decide +kernel, fun _ => by decide +kernel⟩
theorem vm_l67 : vm_cf 4 63 0 60 502 := ⟨RX4, vm_m60, rfl, rfl, ⟨vm_r36 _ (List.mem_of_getElem? (i := 15) rfl), vm_r24 _ (List.mem_of_getElem? (i := 7) rfl), vm_r24 _ (List.mem_of_getElem? (i := 8) rfl)⟩, fun _ => by decide +kernel, fun _ => by decide +kernel⟩
theorem vm_l68 : vm_cf 4 67 0 58 501 := ⟨RX4, vm_m58, rfl, rfl, ⟨vm_r36 _ (List.mem_of_getElem? (i := 16) rfl), vm_r8 _ (List.mem_of_getElem? (i := 20) rfl), vm_r8 _ (List.mem_of_getElem? (i := 21) rfl)⟩, fun _ => by decide +kernel, fun _ => by decide +kernel⟩
theorem vm_l69 : vm_cf 5 3 5 0 0 := ⟨RX5, vm_m0, rfl, rfl, vm_r4 _ (List.mem_of_getElem? (i := 17) rfl), fun h => absurd h (by decide), fun h => absurd h (by decide)⟩
theorem vm_l70 : vm_cf 5 13 2 54 1 := ⟨RX5, vm_m54, rfl, rfl, ⟨vm_r5 _ (List.mem_of_getElem? (i := 1) rfl), vm_r3 _ (List.mem_of_getElem? (i := 4) rfl), rfl, rfl⟩, fun _ => by decide +kernel, fun h => absurd h (by decide)⟩
theorem vm_l71 : vm_cf 5 22 4 70 0 := ⟨RX5, vm_m70, rfl, rfl, ⟨⟨"EmberTale", List.mem_of_getElem? (i := 1) rfl⟩, vm_r3 _ (List.mem_of_getElem? (i := 13) rfl), rfl, rfl⟩, fun _ => by decide +kernel, fun h => absurd h (by decide)⟩
theorem vm_l72 : vm_cf 5 29 2 0 1 := ⟨RX5, vm_m0, rfl, rfl, ⟨vm_r5 _ (List.mem_of_getElem? (i := 2) rfl), vm_r3 _ (List.mem_of_getElem? (i := 23) rfl), rfl, rfl⟩, fun _ => by decide +kernel, fun h => absurd h (by decide)⟩
theorem vm_l73 : vm_cf 5 39 0 4 0 := ⟨RX5, vm_m4, rfl, rfl, ⟨vm_r12 _ (List.mem_of_getElem? (i := 16) rfl), vm_r12 _ (List.mem_of_getElem? (i := 17) rfl), vm_r12 _ (List.mem_of_getElem? (i := 18) rfl)⟩, fun _ => by decide +kernel, fun _ => by decide +kernel⟩
theorem vm_l74 : vm_cf 5 43 0 77 700 := ⟨RX5, vm_m77, rfl, rfl, ⟨vm_r12 _ (List.mem_of_getElem? (i := 21) rfl), vm_r12 _ (List.mem_of_getElem? (i := 22) rfl), vm_r12 _ (List.mem_of_getElem? (i := 23) rfl)⟩, fun _ => by decide +kernel, fun _ => by decide +kernel⟩
theorem vm_l75 : vm_cf 5 47 0 71 700 := ⟨RX5, vm_m71, rfl, rfl, ⟨vm_r9 _ (List.mem_of_getElem? (i := 9) rfl), vm_r9 _ (List.mem_of_getElem? (i := 10) rfl), vm_r9 _ (List.mem_of_getElem? (i := 11) rfl)⟩, fun _ => by decide +kernel, fun _ => by decide +kernel⟩
theorem vm_l76 : vm_cf 5 50 0 1 0 := ⟨RX5, vm_m1, rfl, rfl, ⟨vm_r9 _ (List.mem_of_getElem? (i := 18) rfl), vm_r9 _ (List.mem_of_getElem? (i := 19) rfl), vm_r9 _ (List.mem_of_getElem? (i := 20) rfl)⟩, fun _ => by decide +kernel, fun _ => by decide +kernel⟩
theorem vm_l77 : vm_cf 5 55 0 55 500 := ⟨RX5, vm_m55, rfl, rfl, ⟨vm_r10 _ (List.mem_of_getElem? (i := 0) rfl), vm_r10 _ (List.mem_of_getElem? (i := 1) rfl), vm_r10 _ (List.mem_of_getElem? (i := 2) rfl)⟩, fun _ => by decide +kernel, fun _ => by decide +kernel⟩
theorem vm_l78 : vm_cf 5 58 0 48 400 := ⟨RX5, vm_m48, rfl, rfl, ⟨vm_r10 _ (List.mem_of_getElem? (i := 4) rfl), vm_r10 _ (List.mem_of_getElem? (i := 5) rfl), vm_r10 _ (List.mem_of_getElem? (i := 6) rfl)⟩, fun _ => by decide +kernel, fun _ => by decide +kernel⟩
theorem vm_l79 : vm_cf 5 61 0 52 400 := ⟨RX5, vm_m52, rfl, rfl, ⟨vm_r10 _ (List.mem_of_getElem? (i := 8) rfl), vm_r10 _ (List.mem_of_getElem? (i := 9) rfl), vm_r10 _ (List.mem_of_getElem? (i := 10) rfl)⟩, fun _ => by decide +kernel, fun _ => by decide +kernel⟩
theorem vm_l80 : vm_cf 5 64 0 49 401 := ⟨RX5, vm_m49, rfl, rfl, ⟨vm_r10 _ (List.mem_of_getElem? (i := 16) rfl), vm_r10 _ (List.mem_of_getElem? (i := 17) rfl), vm_r10 _ (List.mem_of_getElem? (i := 18) rfl)⟩, fun _ => by decide +kernel, fun _ => by decide +kernel⟩
theorem vm_l81 : vm_cf 5 68 0 73 701 := ⟨RX5, vm_m73, rfl, rfl, ⟨vm_r11 _ (List.mem_of_getElem? (i := 1) rfl), vm_r11 _ (List.mem_of_getElem? (i := 2) rfl), vm_r11 _ (List.mem_of_getElem? (i := 3) rfl)⟩, fun _ => by decide +kernel, fun _ => by decide +kernel⟩
theorem vm_l82 : vm_cf 5 72 0 50 401 := ⟨RX5, vm_m50, rfl, rfl, ⟨vm_r11 _ (List.mem_of_getElem? (i := 11) rfl), vm_r11 _ (List.mem_of_getElem? (i := 12) rfl), vm_r11 _ (List.mem_of_getElem? (i := 13) rfl)⟩, fun _ => by decide +kernel, fun _ => by decide +kernel⟩
theorem vm_l83 : vm_cf 5 75 0 59 501 := ⟨RX5, vm_m59, rfl, rfl, ⟨vm_r10 _ (List.mem_of_getElem? (i := 12) rfl), vm_r10 _ (List.mem_of_getElem? (i := 13) rfl), vm_r10 _ (List.mem_of_getElem? (i := 14) rfl)⟩, fun _ => by decide +kernel, fun _ => by decide +kernel⟩
theorem vm_l84 : vm_cf 5 79 0 74 701 := ⟨RX5, vm_m74, rfl, rfl, ⟨vm_r11 _ (List.mem_of_getElem? (i := 19) rfl), vm_r11 _ (List.mem_of_getElem? (i := 20) rfl), vm_r11 _ (List.mem_of_getElem? (i := 21) rfl)⟩, fun _ => by decide +kernel, fun _ => by decide +kernel⟩
theorem vm_l85 : vm_cf 5 82 0 3 1 := ⟨RX5, vm_m3, rfl, rfl, ⟨vm_r12 _ (List.mem_of_getElem? (i := 1) rfl), vm_r12 _ (List.mem_of_getElem? (i := 2) rfl), vm_r12 _ (List.mem_of_getElem? (i := 3) rfl)⟩, fun _ => by decide +kernel, fun _ => by decide +kernel⟩
theorem vm_l86 : vm_cf 5 85 0 57 500 := ⟨RX5, vm_m57, rfl, rfl, ⟨vm_r10 _ (List.mem_of_getElem? (i := 20) rfl), vm_r9 _ (List.mem_of_getElem? (i := 15) rfl), vm_r9 _ (List.mem_of_getElem? (i := 16) rfl)⟩, fun _ => by decide +kernel, fun _ => by decide +kernel⟩
theorem vm_l87 : vm_cf 5 86 1 53 1 := ⟨RX5, vm_m53, rfl, rfl, ⟨vm_r10 _ (List.mem_of_getElem? (i := 21) rfl), vm_r10 _ (List.mem_of_getElem? (i := 22) rfl)⟩, fun _ => by decide +kernel, fun h => absurd h (by decide)⟩
theorem vm_l88 : vm_cf 5 89 0 58 501 := ⟨RX5, vm_m58, rfl, rfl, ⟨vm_r11 _ (List.mem_of_getElem? (i := 0) rfl), vm_r8 _ (List.mem_of_getElem? (i := 20) rfl), vm_r8 _ (List.mem_of_getElem? (i := 21) rfl)⟩, fun _ => by decide +kernel, fun _ => by decide +kernel⟩
theorem vm_l89 : vm_cf 5 92 0 51 400 := ⟨RX5, vm_m51, rfl, rfl, ⟨vm_r11 _ (List.mem_of_getElem? (i := 15) rfl), vm_r11 _ (List.mem_of_getElem? (i := 16) rfl), vm_r11 _ (List.mem_of_getElem? (i := 17) rfl)⟩, fun _ => by decide +kernel, fun _ => by decide +kernel⟩
theorem vm_l90 : vm_cf 6 3 5 0 0 := ⟨RX6, vm_m0, rfl, rfl, vm_r3 _ (List.mem_of_getElem? (i := 6) rfl), fun h => absurd h (by decide), fun h => absurd h (by decide)⟩
theorem vm_l91 : vm_cf 6 9 1 202 2 := ⟨RX6, vm_m202, rfl, rfl, ⟨vm_r3 _ (List.mem_of_getElem? (i := 7) rfl), vm_r3 _ (List.mem_of_getElem? (i := 8) rfl)⟩, fun _ => by decide +kernel, fun h => absurd h (by decide)⟩
theorem vm_l92 : vm_cf 6 25 0 57 500 := ⟨RX6, vm_m57, rfl, rfl, ⟨vm_r13 _ (List.mem_of_getElem? (i := 15) rfl), vm_r9 _ (List.mem_of_getElem? (i := 15) rfl), vm_r9 _ (List.mem_of_getElem? (i := 16) rfl)⟩, fun _ => by decide +kernel, fun _ => by decide +kernel⟩
theorem vm_l93 : vm_cf 6 28 0 55 500 := ⟨RX6, vm_m55, rfl, rfl, ⟨vm_r13 _ (List.mem_of_getElem? (i := 16) rfl), vm_r10 _ (List.mem_of_getElem? (i := 1) rfl), vm_r10 _ (List.mem_of_getElem? (i := 2) rfl)⟩, fun _ => by decide +kernel, fun _ => by decide +kernel⟩
theorem vm_l94 : vm_cf 6 31 0 59 501 := ⟨RX6, vm_m59, rfl, rfl, ⟨vm_r13 _ (List.mem_of_getElem? (i := 17) rfl), vm_r10 _ (List.mem_of_getElem? (i := 13) rfl), vm_r10 _ (List.mem_of_getElem? (i := 14) rfl)⟩, fun _ => by decide +kernel, fun _ => by decide +kernel⟩
theorem vm_l95 : vm_cf 6 35 0 58 501 := ⟨RX6, vm_m58, rfl, rfl, ⟨vm_r13 _ (List.mem_of_getElem? (i := 18) rfl), vm_r8 _ (List.mem_of_getElem? (i := 20) rfl), vm_r8 _ (List.mem_of_getElem? (i := 21) rfl)⟩, fun _ => by decide +kernel, fun _ => by decide +kernel⟩
theorem vm_l96 : vm_cf 7 1 5 0 0 := ⟨RX7, vm_m0, rfl, rfl, vm_r4 _ (List.mem_of_getElem? (i := 9) rfl), fun h => absurd h (by decide), fun h => absurd h (by decide)⟩
theorem vm_l97 : vm_cf 7 7 1 202 2 := ⟨RX7, vm_m202, rfl, rfl, ⟨vm_r4 _ (List.mem_of_getElem? (i := 10) rfl), vm_r3 _ (List.mem_of_getElem? (i := 8) rfl)⟩, fun _ => by decide +kernel, fun h => absurd h (by decide)⟩
theorem vm_l98 : vm_cf 7 21 2 0 1 := ⟨RX7, vm_m0, rfl, rfl, ⟨vm_r4 _ (List.mem_of_getElem? (i := 13) rfl), vm_r3 _ (List.mem_of_getElem? (i := 23) rfl), rfl, rfl⟩, fun _ => by decide +kernel, fun h => absurd h (by decide)⟩
theorem vm_l99 : vm_cf 7 28 0 65 600 := ⟨RX7, vm_m65, rfl, rfl, ⟨vm_r23 _ (List.mem_of_getElem? (i := 8) rfl), vm_r23 _ (List.mem_of_getElem? (i := 9) rfl), vm_r23 _ (List.mem_of_getElem? (i := 10) rfl)⟩, fun _ => by decide +kernel, fun _ => by decide +kernel⟩
theorem vm_l100 : vm_cf 7 35 0 69 601 := ⟨RX7, vm_m69, rfl, rfl, ⟨vm_r23 _ (List.mem_of_getElem? (i := 12) rfl), vm_r23 _ (List.mem_of_getElem? (i := 13) rfl), vm_r23 _ (List.mem_of_getElem? (i := 14) rfl)⟩, fun _ => by decide +kernel, fun _ => by decide +kernel⟩
theorem vm_l101 : vm_cf 7 39 0 2 1 := ⟨RX7, vm_m2, rfl, rfl, ⟨vm_r23 _ (List.mem_of_getElem? (i := 17) rfl), vm_r14 _ (List.mem_of_getElem? (i := 0) rfl), vm_r14 _ (List.mem_of_getElem? (i := 1) rfl)⟩, fun _ => by decide +kernel, fun _ => by decide +kernel⟩
theorem vm_l102 : vm_cf 7 43 1 204 2 := ⟨RX7, vm_m204, rfl, rfl, ⟨vm_r23 _ (List.mem_of_getElem? (i := 16) rfl), vm_r21 _ (List.mem_of_getElem? (i := 5) rfl)⟩, fun _ => by decide +kernel, fun h => absurd h (by decide)⟩
theorem vm_l103 : vm_cf 8 3 5 0 0 := ⟨RX8, vm_m0, rfl, rfl, vm_r3 _ (List.mem_of_getElem? (i := 15) rfl), fun h => absurd h (by decide), fun h => absurd h (by decide)⟩
theorem vm_l104 : vm_cf 8 11 2 54 1 := ⟨RX8, vm_m54, rfl, rfl, ⟨vm_r3 _ (List.mem_of_getElem? (i := 21) rfl), vm_r3 _ (List.mem_of_getElem? (i := 4) rfl), rfl, rfl⟩, fun _ => by decide +kernel, fun h => absurd h (by decide)⟩
theorem vm_l105 : vm_cf 8 33 0 57 500 := ⟨RX8, vm_m57, rfl, rfl, ⟨vm_r9 _ (List.mem_of_getElem? (i := 14) rfl), vm_r9 _ (List.mem_of_getElem? (i := 15) rfl), vm_r9 _ (List.mem_of_getElem? (i := 16) rfl)⟩, fun _ => by decide +kernel, fun _ => by decide +kernel⟩
theorem vm_l106 : vm_cf 8 36 0 62 501 := ⟨RX8, vm_m62, rfl, rfl, ⟨vm_r13 _ (List.mem_of_getElem? (i := 11) rfl), vm_r13 _ (List.mem_of_getElem? (i := 12) rfl), vm_r13 _ (List.mem_of_getElem? (i := 13) rfl)⟩, fun _ => by decide +kernel, fun _ => by decide +kernel⟩
theorem vm_l107 : vm_cf 8 40 0 56 500 := ⟨RX8, vm_m56, rfl, rfl, ⟨vm_r11 _ (List.mem_of_getElem? (i := 5) rfl), vm_r11 _ (List.mem_of_getElem? (i := 6) rfl), vm_r11 _ (List.mem_of_getElem? (i := 7) rfl)⟩, fun _ => by decide +kernel, fun _ => by decide +kernel⟩
theorem vm_l108 : vm_cf 8 44 0 59 501 := ⟨RX8, vm_m59, rfl, rfl, ⟨vm_r11 _ (List.mem_of_getElem? (i := 9) rfl), vm_r10 _ (List.mem_of_getElem? (i := 13) rfl), vm_r10 _ (List.mem_of_getElem? (i := 14) rfl)⟩, fun _ => by decide +kernel, fun _ => by decide +kernel⟩
theorem vm_l109 : vm_cf 8 48 0 58 501 := ⟨RX8, vm_m58, rfl, rfl, ⟨vm_r11 _ (List.mem_of_getElem? (i := 10) rfl), vm_r8 _ (List.mem_of_getElem? (i := 20) rfl), vm_r8 _ (List.mem_of_getElem? (i := 21) rfl)⟩, fun _ => by decide +kernel, fun _ => by decide +kernel⟩
theorem vm_l110 : vm_cf 8 51 3 126 3 := ⟨RX8, vm_m126, rfl, rfl, ⟨⟨"EmberTale", List.mem_of_getElem? (i := 2) rfl⟩, vm_r11 _ (List.mem_of_getElem? (i := 23) rfl)⟩, fun _ => by decide +kernel, fun h => absurd h (by decide)⟩
theorem vm_l111 : vm_cf 8 55 0 55 500 := ⟨RX8, vm_m55, rfl, rfl, ⟨vm_r13 _ (List.mem_of_getElem? (i := 1) rfl), vm_r10 _ (List.mem_of_getElem? (i := 1) rfl), vm_r10 _ (List.mem_of_getElem? (i := 2) rfl)⟩, fun _ => by decide +kernel, fun _ => by decide +kernel⟩
theorem vm_l112 : vm_cf 8 59 0 76 701 := ⟨RX8, vm_m76, rfl, rfl, ⟨vm_r13 _ (List.mem_of_getElem? (i := 2) rfl), vm_r12 _ (List.mem_of_getElem? (i := 8) rfl), vm_r12 _ (List.mem_of_getElem? (i := 9) rfl)⟩, fun _ => by decide +kernel, fun _ => by decide +kernel⟩
theorem vm_l113 : vm_cf 8 63 3 125 1 := ⟨RX8, vm_m125, rfl, rfl, ⟨⟨"EmberTale", List.mem_of_getElem? (i := 4) rfl⟩, vm_r19 _ (List.mem_of_getElem? (i := 18) rfl)⟩, fun _ => by decide +kernel, fun h => absurd h (by decide)⟩
theorem vm_l114 : vm_cf 8 66 0 78 702 := ⟨RX8, vm_m78, rfl, rfl, ⟨vm_r34 _ (List.mem_of_getElem? (i := 12) rfl), vm_r19 _ (List.mem_of_getElem? (i := 21) rfl), vm_r19 _ (List.mem_of_getElem? (i := 22) rfl)⟩, fun _ => by decide +kernel, fun _ => by decide +kernel⟩
theorem vm_l115 : vm_cf 8 70 1 204 2 := ⟨RX8, vm_m204, rfl, rfl, ⟨vm_r21 _ (List.mem_of_getElem? (i := 4) rfl), vm_r21 _ (List.mem_of_getElem? (i := 5) rfl)⟩, fun _ => by decide +kernel, fun h => absurd h (by decide)⟩
theorem vm_l116 : vm_cf 8 75 0 82 701 := ⟨RX8, vm_m82, rfl, rfl, ⟨vm_r34 _ (List.mem_of_getElem? (i := 4) rfl), vm_r34 _ (List.mem_of_getElem? (i := 5) rfl), vm_r34 _ (List.mem_of_getElem? (i := 6) rfl)⟩, fun _ => by decide +kernel, fun _ => by decide +kernel⟩
theorem vm_l117 : vm_cf 8 78 0 79 702 := ⟨RX8, vm_m79, rfl, rfl, ⟨vm_r34 _ (List.mem_of_getElem? (i := 8) rfl), vm_r34 _ (List.mem_of_getElem? (i := 9) rfl), vm_r34 _ (List.mem_of_getElem? (i := 10) rfl)⟩, fun _ => by decide +kernel, fun _ => by decide +kernel⟩
theorem vm_l118 : vm_cf 8 81 0 84 702 := ⟨RX8, vm_m84, rfl, rfl, ⟨vm_r39 _ (List.mem_of_getElem? (i := 19) rfl), vm_r39 _ (List.mem_of_getElem? (i := 20) rfl), vm_r39 _ (List.mem_of_getElem? (i := 21) rfl)⟩, fun _ => by decide +kernel, fun _ => by decide +kernel⟩
theorem vm_l119 : vm_cf 8 85 0 61 501 := ⟨RX8, vm_m61, rfl, rfl, ⟨vm_r40 _ (List.mem_of_getElem? (i := 11) rfl), vm_r31 _ (List.mem_of_getElem? (i := 19) rfl), vm_r31 _ (List.mem_of_getElem? (i := 20) rfl)⟩, fun _ => by decide +kernel, fun _ => by decide +kernel⟩
theorem vm_l120 : vm_cf 8 88 0 60 502 := ⟨RX8, vm_m60, rfl, rfl, ⟨vm_r40 _ (List.mem_of_getElem? (i := 12) rfl), vm_r24 _ (List.mem_of_getElem? (i := 7) rfl), vm_r24 _ (List.mem_of_getElem? (i := 8) rfl)⟩, fun _ => by decide +kernel, fun _ => by decide +kernel⟩
theorem vm_l121 : vm_cf 8 92 0 86 700 := ⟨RX8, vm_m86, rfl, rfl, ⟨vm_r40 _ (List.mem_of_getElem? (i := 13) rfl), vm_r40 _ (List.mem_of_getElem? (i := 14) rfl), vm_r40 _ (List.mem_of_getElem? (i := 15) rfl)⟩, fun _ => by decide +kernel, fun _ => by decide +kernel⟩
theorem vm_l122 : vm_cf 9 3 5 0 0 := ⟨RX9, vm_m0, rfl, rfl, vm_r5 _ (List.mem_of_getElem? (i := 15) rfl), fun h => absurd h (by decide), fun h => absurd h (by decide)⟩
theorem vm_l123 : vm_cf 9 11 2 54 1 := ⟨RX9, vm_m54, rfl, rfl, ⟨vm_r5 _ (List.mem_of_getElem? (i := 20) rfl), vm_r3 _ (List.mem_of_getElem? (i := 4) rfl), rfl, rfl⟩, fun _ => by decide +kernel, fun h => absurd h (by decide)⟩
theorem vm_l124 : vm_cf 9 29 0 7 2 := ⟨RX9, vm_m7, rfl, rfl, ⟨vm_r33 _ (List.mem_of_getElem? (i := 23) rfl), vm_r22 _ (List.mem_of_getElem? (i := 3) rfl), vm_r22 _ (List.mem_of_getElem? (i := 4) rfl)⟩, fun _ => by decide +kernel, fun _ => by decide +kernel⟩
theorem vm_l125 : vm_cf 9 33 0 81 701 := ⟨RX9, vm_m81, rfl, rfl, ⟨vm_r34 _ (List.mem_of_getElem? (i := 0) rfl), vm_r34 _ (List.mem_of_getElem? (i := 1) rfl), vm_r34 _ (List.mem_of_getElem? (i := 2) rfl)⟩, fun _ => by decide +kernel, fun _ => by decide +kernel⟩
theorem vm_l126 : vm_cf 9 43 0 57 500 := ⟨RX9, vm_m57, rfl, rfl, ⟨vm_r34 _ (List.mem_of_getElem? (i := 13) rfl), vm_r9 _ (List.mem_of_getElem? (i := 15) rfl), vm_r9 _ (List.mem_of_getElem? (i := 16) rfl)⟩, fun _ => by decide +kernel, fun _ => by decide +kernel⟩
theorem vm_l127 : vm_cf 9 46 0 58 501 := ⟨RX9, vm_m58, rfl, rfl, ⟨vm_r34 _ (List.mem_of_getElem? (i := 14) rfl), vm_r8 _ (List.mem_of_getElem? (i := 20) rfl), vm_r8 _ (List.mem_of_getElem? (i := 21) rfl)⟩, fun _ => by decide +kernel, fun _ => by decide +kernel⟩
theorem vm_l128 : vm_cf 9 49 0 61 501 := ⟨RX9, vm_m61, rfl, rfl, ⟨vm_r34 _ (List.mem_of_getElem? (i := 15) rfl), vm_r31 _ (List.mem_of_getElem? (i := 19) rfl), vm_r31 _ (List.mem_of_getElem? (i := 20) rfl)⟩, fun _ => by decide +kernel, fun _ => by decide +kernel⟩
theorem vm_l129 : vm_cf 9 55 0 90 803 := ⟨RX9, vm_m90, rfl, rfl, ⟨vm_r34 _ (List.mem_of_getElem? (i := 16) rfl), vm_r34 _ (List.mem_of_getElem? (i := 17) rfl), vm_r34 _ (List.mem_of_getElem? (i := 18) rfl)⟩, fun _ => by decide +kernel, fun _ => by decide +kernel⟩
theorem vm_l130 : vm_cf 9 59 0 59 501 := ⟨RX9, vm_m59, rfl, rfl, ⟨vm_r35 _ (List.mem_of_getElem? (i := 1) rfl), vm_r10 _ (List.mem_of_getElem? (i := 13) rfl), vm_r10 _ (List.mem_of_getElem? (i := 14) rfl)⟩, fun _ => by decide +kernel, fun _ => by decide +kernel⟩
theorem vm_l131 : vm_cf 9 61 0 91 804 := ⟨RX9, vm_m91, rfl, rfl, ⟨vm_r34 _ (List.mem_of_getElem? (i := 20) rfl), vm_r34 _ (List.mem_of_getElem? (i := 21) rfl), vm_r34 _ (List.mem_of_getElem? (i := 22) rfl)⟩, fun _ => by decide +kernel, fun _ => by decide +kernel⟩
theorem vm_l132 : vm_cf 9 65 1 30 2 := ⟨RX9, vm_m30, rfl, rfl, ⟨vm_r35 _ (List.mem_of_getElem? (i := 0) rfl), vm_r24 _ (List.mem_of_getElem? (i := 11) rfl)⟩, fun _ => by decide +kernel, fun h => absurd h (by decide)⟩
theorem vm_l133 : vm_cf 9 70 0 60 502 := ⟨RX9, vm_m60, rfl, rfl, ⟨vm_r35 _ (List.mem_of_getElem? (i := 2) rfl), vm_r24 _ (List.mem_of_getElem? (i := 7) rfl), vm_r24 _ (List.mem_of_getElem? (i := 8) rfl)⟩, fun _ => by decide +kernel, fun _ => by decide +kernel⟩
theorem vm_l134 : vm_cf 9 74 0 79 702 := ⟨RX9, vm_m79, rfl, rfl, ⟨vm_r35 _ (List.mem_of_getElem? (i := 3) rfl), vm_r34 _ (List.mem_of_getElem? (i := 9) rfl), vm_r34 _ (List.mem_of_getElem? (i := 10) rfl)⟩, fun _ => by decide +kernel, fun _ => by decide +kernel⟩
theorem vm_l135 : vm_cf 10 1 5 0 0 := ⟨RX10, vm_m0, rfl, rfl, vm_r1 _ (List.mem_of_getElem? (i := 9) rfl), fun h => absurd h (by decide), fun h => absurd h (by decide)⟩
theorem vm_l136 : vm_cf 10 11 2 54 1 := ⟨RX10, vm_m54, rfl, rfl, ⟨vm_r3 _ (List.mem_of_getElem? (i := 3) rfl), vm_r3 _ (List.mem_of_getElem? (i := 4) rfl), rfl, rfl⟩, fun _ => by decide +kernel, fun h => absurd h (by decide)⟩
theorem vm_l137 : vm_cf 10 23 4 70 0 := ⟨RX10, vm_m70, rfl, rfl, ⟨⟨"EmberTale", List.mem_of_getElem? (i := 0) rfl⟩, vm_r3 _ (List.mem_of_getElem? (i := 13) rfl), rfl, rfl⟩, fun _ => by decide +kernel, fun h => absurd h (by decide)⟩
theorem vm_l138 : vm_cf 10 30 2 0 1 := ⟨RX10, vm_m0, rfl, rfl, ⟨vm_r3 _ (List.mem_of_getElem? (i := 22) rfl), vm_r3 _ (List.mem_of_getElem? (i := 23) rfl), rfl, rfl⟩, fun _ => by decide +kernel, fun h => absurd h (by decide)⟩
theorem vm_l139 : vm_cf 10 42 2 63 2 := ⟨RX10, vm_m63, rfl, rfl, ⟨vm_r4 _ (List.mem_of_getElem? (i := 6) rfl), vm_r4 _ (List.mem_of_getElem? (i := 7) rfl), rfl, rfl⟩, fun _ => by decide +kernel, fun h => absurd h (by decide)⟩
theorem vm_l140 : vm_cf 10 54 2 43 1 := ⟨RX10, vm_m43, rfl, rfl, ⟨vm_r4 _ (List.mem_of_getElem? (i := 14) rfl), vm_r4 _ (List.mem_of_getElem? (i := 15) rfl), rfl, rfl⟩, fun _ => by decide +kernel, fun h => absurd h (by decide)⟩
theorem vm_l141 : vm_cf 10 63 2 33 1 := ⟨RX10, vm_m33, rfl, rfl, ⟨vm_r5 _ (List.mem_of_getElem? (i := 3) rfl), vm_r5 _ (List.mem_of_getElem? (i := 4) rfl), rfl, rfl⟩, fun _ => by decide +kernel, fun h => absurd h (by decide)⟩
theorem vm_l142 : vm_cf 10 70 2 87 1 := ⟨RX10, vm_m87, rfl, rfl, ⟨vm_r5 _ (List.mem_of_getElem? (i := 12) rfl), vm_r5 _ (List.mem_of_getElem? (i := 13) rfl), rfl, rfl⟩, fun _ => by decide +kernel, fun h => absurd h (by decide)⟩
theorem vm_l143 : vm_cf 10 77 2 38 1 := ⟨RX10, vm_m38, rfl, rfl, ⟨vm_r5 _ (List.mem_of_getElem? (i := 21) rfl), vm_r5 _ (List.mem_of_getElem? (i := 22) rfl), rfl, rfl⟩, fun _ => by decide +kernel, fun h => absurd h (by decide)⟩
theorem vm_l144 : vm_cf 10 84 2 25 1 := ⟨RX10, vm_m25, rfl, rfl, ⟨vm_r6 _ (List.mem_of_getElem? (i := 9) rfl), vm_r6 _ (List.mem_of_getElem? (i := 10) rfl), rfl, rfl⟩, fun _ => by decide +kernel, fun h => absurd h (by decide)⟩
theorem vm_l145 : vm_cf 10 91 6 0 0 := ⟨RX10, vm_m0, rfl, rfl, vm_r6 _ (List.mem_of_getElem? (i := 18) rfl), fun h => absurd h (by decide), fun h => absurd h (by decide)⟩
theorem vm_l146 : vm_cf 10 97 7 0 0 := ⟨RX10, vm_m0, rfl, rfl, vm_r7 _ (List.mem_of_getElem? (i := 6) rfl), fun h => absurd h (by decide), fun h => absurd h (by decide)⟩
theorem vm_l147 : vm_cf 10 101 0 58 501 := ⟨RX10, vm_m58, rfl, rfl, ⟨vm_r8 _ (List.mem_of_getElem? (i := 19) rfl), vm_r8 _ (List.mem_of_getElem? (i := 20) rfl), vm_r8 _ (List.mem_of_getElem? (i := 21) rfl)⟩, fun _ => by decide +kernel, fun _ => by decide +kernel⟩
theorem vm_l148 : vm_cf 10 104 0 121 900 := ⟨RX10, vm_m121, rfl, rfl, ⟨vm_r9 _ (List.mem_of_getElem? (i := 0) rfl), vm_r9 _ (List.mem_of_getElem? (i := 1) rfl), vm_r9 _ (List.mem_of_getElem? (i := 2) rfl)⟩, fun _ => by decide +kernel, fun _ => by decide +kernel⟩
theorem vm_l149 : vm_cf 10 108 0 57 500 := ⟨RX10, vm_m57, rfl, rfl, ⟨vm_r14 _ (List.mem_of_getElem? (i := 4) rfl), vm_r9 _ (List.mem_of_getElem? (i := 15) rfl), vm_r9 _ (List.mem_of_getElem? (i := 16) rfl)⟩, fun _ => by decide +kernel, fun _ => by decide +kernel⟩
theorem vm_l150 : vm_cf 10 111 1 126 3 := ⟨RX10, vm_m126, rfl, rfl, ⟨vm_r16 _ (List.mem_of_getElem? (i := 0) rfl), vm_r11 _ (List.mem_of_getElem? (i := 23) rfl)⟩, fun _ => by decide +kernel, fun h => absurd h (by decide)⟩
theorem vm_l151 : vm_cf 10 115 0 56 500 := ⟨RX10, vm_m56, rfl, rfl, ⟨vm_r16 _ (List.mem_of_getElem? (i := 1) rfl), vm_r11 _ (List.mem_of_getElem? (i := 6) rfl), vm_r11 _ (List.mem_of_getElem? (i := 7) rfl)⟩, fun _ => by decide +kernel, fun _ => by decide +kernel⟩
theorem vm_l152 : vm_cf 10 118 0 55 500 := ⟨RX10, vm_m55, rfl, rfl, ⟨vm_r16 _ (List.mem_of_getElem? (i := 2) rfl), vm_r10 _ (List.mem_of_getElem? (i := 1) rfl), vm_r10 _ (List.mem_of_getElem? (i := 2) rfl)⟩, fun _ => by decide +kernel, fun _ => by decide +kernel⟩
theorem vm_l153 : vm_cf 10 121 0 47 400 := ⟨RX10, vm_m47, rfl, rfl, ⟨vm_r9 _ (List.mem_of_getElem? (i := 4) rfl), vm_r9 _ (List.mem_of_getElem? (i := 5) rfl), vm_r9 _ (List.mem_of_getElem? (i := 6) rfl)⟩, fun _ => by decide +kernel, fun _ => by decide +kernel⟩
theorem vm_l154 : vm_cf 10 124 0 4 0 := ⟨RX10, vm_m4, rfl, rfl, ⟨vm_r19 _ (List.mem_of_getElem? (i := 0) rfl), vm_r12 _ (List.mem_of_getElem? (i := 17) rfl), vm_r12 _ (List.mem_of_getElem? (i := 18) rfl)⟩, fun _ => by decide +kernel, fun _ => by decide +kernel⟩
theorem vm_l155 : vm_cf 10 127 0 76 701 := ⟨RX10, vm_m76, rfl, rfl, ⟨vm_r19 _ (List.mem_of_getElem? (i := 16) rfl), vm_r12 _ (List.mem_of_getElem? (i := 8) rfl), vm_r12 _ (List.mem_of_getElem? (i := 9) rfl)⟩, fun _ => by decide +kernel, fun _ => by decide +kernel⟩
theorem vm_l156 : vm_cf 10 131 1 125 1 := ⟨RX10, vm_m125, rfl, rfl, ⟨vm_r19 _ (List.mem_of_getElem? (i := 17) rfl), vm_r19 _ (List.mem_of_getElem? (i := 18) rfl)⟩, fun _ => by decide +kernel, fun h => absurd h (by decide)⟩
theorem vm_l157 : vm_cf 10 134 0 78 702 := ⟨RX10, vm_m78, rfl, rfl, ⟨vm_r19 _ (List.mem_of_getElem? (i := 20) rfl), vm_r19 _ (List.mem_of_getElem? (i := 21) rfl), vm_r19 _ (List.mem_of_getElem? (i := 22) rfl)⟩, fun _ => by decide +kernel, fun _ => by decide +kernel⟩
theorem vm_l158 : vm_cf 10 138 0 5 0 := ⟨RX10, vm_m5, rfl, rfl, ⟨vm_r20 _ (List.mem_of_getElem? (i := 20) rfl), vm_r20 _ (List.mem_of_getElem? (i := 21) rfl), vm_r20 _ (List.mem_of_getElem? (i := 22) rfl)⟩, fun _ => by decide +kernel, fun _ => by decide +kernel⟩
theorem vm_l159 : vm_cf 10 141 0 80 701 := ⟨RX10, vm_m80, rfl, rfl, ⟨vm_r21 _ (List.mem_of_getElem? (i := 0) rfl), vm_r21 _ (List.mem_of_getElem? (i := 1) rfl), vm_r21 _ (List.mem_of_getElem? (i := 2) rfl)⟩, fun _ => by decide +kernel, fun _ => by decide +kernel⟩
theorem vm_l160 : vm_cf 10 145 0 6 1 := ⟨RX10, vm_m6, rfl, rfl, ⟨vm_r21 _ (List.mem_of_getElem? (i := 21) rfl), vm_r21 _ (List.mem_of_getElem? (i := 22) rfl), vm_r21 _ (List.mem_of_getElem? (i := 23) rfl)⟩, fun _ => by decide +kernel, fun _ => by decide +kernel⟩
theorem vm_l161 : vm_cf 10 148 0 7 2 := ⟨RX10, vm_m7, rfl, rfl, ⟨vm_r22 _ (List.mem_of_getElem? (i := 2) rfl), vm_r22 _ (List.mem_of_getElem? (i := 3) rfl), vm_r22 _ (List.mem_of_getElem? (i := 4) rfl)⟩, fun _ => by decide +kernel, fun _ => by decide +kernel⟩
theorem vm_l162 : vm_cf 10 151 0 11 2 := ⟨RX10, vm_m11, rfl, rfl, ⟨vm_r22 _ (List.mem_of_getElem? (i := 18) rfl), vm_r22 _ (List.mem_of_getElem? (i := 19) rfl), vm_r22 _ (List.mem_of_getElem? (i := 20) rfl)⟩, fun _ => by decide +kernel, fun _ => by decide +kernel⟩
theorem vm_l163 : vm_cf 10 155 0 67 601 := ⟨RX10, vm_m67, rfl, rfl, ⟨vm_r23 _ (List.mem_of_getElem? (i := 3) rfl), vm_r23 _ (List.mem_of_getElem? (i := 4) rfl), vm_r23 _ (List.mem_of_getElem? (i := 5) rfl)⟩, fun _ => by decide +kernel, fun _ => by decide +kernel⟩
theorem vm_l164 : vm_cf 10 159 0 12 2 := ⟨RX10, vm_m12, rfl, rfl, ⟨vm_r23 _ (List.mem_of_getElem? (i := 18) rfl), vm_r23 _ (List.mem_of_getElem? (i := 19) rfl), vm_r23 _ (List.mem_of_getElem? (i := 20) rfl)⟩, fun _ => by decide +kernel, fun _ => by decide +kernel⟩
theorem vm_l165 : vm_cf 10 163 0 14 0 := ⟨RX10, vm_m14, rfl, rfl, ⟨vm_r26 _ (List.mem_of_getElem? (i := 3) rfl), vm_r26 _ (List.mem_of_getElem? (i := 4) rfl), vm_r26 _ (List.mem_of_getElem? (i := 5) rfl)⟩, fun _ => by decide +kernel, fun _ => by decide +kernel⟩
theorem vm_l166 : vm_cf 10 166 0 22 0 := ⟨RX10, vm_m22, rfl, rfl, ⟨vm_r26 _ (List.mem_of_getElem? (i := 11) rfl), vm_r26 _ (List.mem_of_getElem? (i := 12) rfl), vm_r26 _ (List.mem_of_getElem? (i := 13) rfl)⟩, fun _ => by decide +kernel, fun _ => by decide +kernel⟩
theorem vm_l167 : vm_cf 10 169 0 123 902 := ⟨RX10, vm_m123, rfl, rfl, ⟨vm_r27 _ (List.mem_of_getElem? (i := 11) rfl), vm_r27 _ (List.mem_of_getElem? (i := 12) rfl), vm_r27 _ (List.mem_of_getElem? (i := 13) rfl)⟩, fun _ => by decide +kernel, fun _ => by decide +kernel⟩
theorem vm_l168 : vm_cf 10 172 0 15 2 := ⟨RX10, vm_m15, rfl, rfl, ⟨vm_r27 _ (List.mem_of_getElem? (i := 15) rfl), vm_r27 _ (List.mem_of_getElem? (i := 16) rfl), vm_r27 _ (List.mem_of_getElem? (i := 17) rfl)⟩, fun _ => by decide +kernel, fun _ => by decide +kernel⟩
theorem vm_l169 : vm_cf 10 175 0 16 2 := ⟨RX10, vm_m16, rfl, rfl, ⟨vm_r27 _ (List.mem_of_getElem? (i := 19) rfl), vm_r27 _ (List.mem_of_getElem? (i := 20) rfl), vm_r27 _ (List.mem_of_getElem? (i := 21) rfl)⟩, fun _ => by decide +kernel, fun _ => by decide +kernel⟩
theorem vm_l170 : vm_cf 10 178 0 10 1 := ⟨RX10, vm_m10, rfl, rfl, ⟨vm_r28 _ (List.mem_of_getElem? (i := 13) rfl), vm_r22 _ (List.mem_of_getElem? (i := 23) rfl), vm_r23 _ (List.mem_of_getElem? (i := 0) rfl)⟩, fun _ => by decide +kernel, fun _ => by decide +kernel⟩
theorem vm_l171 : vm_cf 10 181 0 17 2 := ⟨RX10, vm_m17, rfl, rfl, ⟨vm_r28 _ (List.mem_of_getElem? (i := 14) rfl), vm_r28 _ (List.mem_of_getElem? (i := 15) rfl), vm_r28 _ (List.mem_of_getElem? (i := 16) rfl)⟩, fun _ => by decide +kernel, fun _ => by decide +kernel⟩
theorem vm_l172 : vm_cf 10 184 0 18 3 := ⟨RX10, vm_m18, rfl, rfl, ⟨vm_r29 _ (List.mem_of_getElem? (i := 7) rfl), vm_r29 _ (List.mem_of_getElem? (i := 8) rfl), vm_r29 _ (List.mem_of_getElem? (i := 9) rfl)⟩, fun _ => by decide +kernel, fun _ => by decide +kernel⟩
theorem vm_l173 : vm_cf 10 187 0 19 3 := ⟨RX10, vm_m19, rfl, rfl, ⟨vm_r29 _ (List.mem_of_getElem? (i := 11) rfl), vm_r29 _ (List.mem_of_getElem? (i := 12) rfl), vm_r29 _ (List.mem_of_getElem? (i := 13) rfl)⟩, fun _ => by decide +kernel, fun _ => by decide +kernel⟩
theorem vm_l174 : vm_cf 10 191 0 68 601 := ⟨RX10, vm_m68, rfl, rfl, ⟨vm_r30 _ (List.mem_of_getElem? (i := 3) rfl), vm_r30 _ (List.mem_of_getElem? (i := 4) rfl), vm_r30 _ (List.mem_of_getElem? (i := 5) rfl)⟩, fun _ => by decide +kernel, fun _ => by decide +kernel⟩
theorem vm_l175 : vm_cf 10 195 0 64 600 := ⟨RX10, vm_m64, rfl, rfl, ⟨vm_r30 _ (List.mem_of_getElem? (i := 7) rfl), vm_r30 _ (List.mem_of_getElem? (i := 8) rfl), vm_r30 _ (List.mem_of_getElem? (i := 9) rfl)⟩, fun _ => by decide +kernel, fun _ => by decide +kernel⟩
theorem vm_l176 : vm_cf 10 196 0 20 1 := ⟨RX10, vm_m20, rfl, rfl, ⟨vm_r30 _ (List.mem_of_getElem? (i := 19) rfl), vm_r30 _ (List.mem_of_getElem? (i := 20) rfl), vm_r30 _ (List.mem_of_getElem? (i := 21) rfl)⟩, fun _ => by decide +kernel, fun _ => by decide +kernel⟩
theorem vm_l177 : vm_cf 10 199 0 34 203 := ⟨RX10, vm_m34, rfl, rfl, ⟨vm_r31 _ (List.mem_of_getElem? (i := 7) rfl), vm_r31 _ (List.mem_of_getElem? (i := 8) rfl), vm_r31 _ (List.mem_of_getElem? (i := 9) rfl)⟩, fun _ => by decide +kernel, fun _ => by decide +kernel⟩
theorem vm_l178 : vm_cf 10 203 0 35 201 := ⟨RX10, vm_m35, rfl, rfl, ⟨vm_r32 _ (List.mem_of_getElem? (i := 11) rfl), vm_r32 _ (List.mem_of_getElem? (i := 12) rfl), vm_r32 _ (List.mem_of_getElem? (i := 13) rfl)⟩, fun _ => by decide +kernel, fun _ => by decide +kernel⟩
theorem vm_l179 : vm_cf 10 206 0 88 803 := ⟨RX10, vm_m88, rfl, rfl, ⟨vm_r33 _ (List.mem_of_getElem? (i := 17) rfl), vm_r33 _ (List.mem_of_getElem? (i := 18) rfl), vm_r33 _ (List.mem_of_getElem? (i := 19) rfl)⟩, fun _ => by decide +kernel, fun _ => by decide +kernel⟩
theorem vm_l180 : vm_cf 10 207 0 89 801 := ⟨RX10, vm_m89, rfl, rfl, ⟨vm_r35 _ (List.mem_of_getElem? (i := 4) rfl), vm_r35 _ (List.mem_of_getElem? (i := 5) rfl), vm_r35 _ (List.mem_of_getElem? (i := 6) rfl)⟩, fun _ => by decide +kernel, fun _ => by decide +kernel⟩
theorem vm_l181 : vm_cf 10 210 0 39 302 := ⟨RX10, vm_m39, rfl, rfl, ⟨vm_r36 _ (List.mem_of_getElem? (i := 4) rfl), vm_r36 _ (List.mem_of_getElem? (i := 5) rfl), vm_r36 _ (List.mem_of_getElem? (i := 6) rfl)⟩, fun _ => by decide +kernel, fun _ => by decide +kernel⟩
theorem vm_l182 : vm_cf 10 213 0 40 301 := ⟨RX10, vm_m40, rfl, rfl, ⟨vm_r36 _ (List.mem_of_getElem? (i := 23) rfl), vm_r37 _ (List.mem_of_getElem? (i := 0) rfl), vm_r37 _ (List.mem_of_getElem? (i := 1) rfl)⟩, fun _ => by decide +kernel, fun _ => by decide +kernel⟩
theorem vm_l183 : vm_cf 10 214 0 81 701 := ⟨RX10, vm_m81, rfl, rfl, ⟨vm_r37 _ (List.mem_of_getElem? (i := 19) rfl), vm_r34 _ (List.mem_of_getElem? (i := 1) rfl), vm_r34 _ (List.mem_of_getElem? (i := 2) rfl)⟩, fun _ => by decide +kernel, fun _ => by decide +kernel⟩
theorem vm_l184 : vm_cf 10 217 0 122 904 := ⟨RX10, vm_m122, rfl, rfl, ⟨vm_r38 _ (List.mem_of_getElem? (i := 7) rfl), vm_r38 _ (List.mem_of_getElem? (i := 8) rfl), vm_r38 _ (List.mem_of_getElem? (i := 9) rfl)⟩, fun _ => by decide +kernel, fun _ => by decide +kernel⟩
theorem vm_l185 : vm_cf 10 221 0 83 702 := ⟨RX10, vm_m83, rfl, rfl, ⟨vm_r39 _ (List.mem_of_getElem? (i := 15) rfl), vm_r39 _ (List.mem_of_getElem? (i := 16) rfl), vm_r39 _ (List.mem_of_getElem? (i := 17) rfl)⟩, fun _ => by decide +kernel, fun _ => by decide +kernel⟩
theorem vm_l186 : vm_cf 10 225 0 85 703 := ⟨RX10, vm_m85, rfl, rfl, ⟨vm_r40 _ (List.mem_of_getElem? (i := 7) rfl), vm_r40 _ (List.mem_of_getElem? (i := 8) rfl), vm_r40 _ (List.mem_of_getElem? (i := 9) rfl)⟩, fun _ => by decide +kernel, fun _ => by decide +kernel⟩
theorem vm_l187 : vm_cf 10 229 0 26 105 := ⟨RX10, vm_m26, rfl, rfl, ⟨vm_r41 _ (List.mem_of_getElem? (i := 2) rfl), vm_r41 _ (List.mem_of_getElem? (i := 3) rfl), vm_r41 _ (List.mem_of_getElem? (i := 4) rfl)⟩, fun _ => by decide +kernel, fun _ => by decide +kernel⟩
theorem vm_l188 : vm_cf 10 233 0 2 1 := ⟨RX10, vm_m2, rfl, rfl, ⟨vm_r13 _ (List.mem_of_getElem? (i := 23) rfl), vm_r14 _ (List.mem_of_getElem? (i := 0) rfl), vm_r14 _ (List.mem_of_getElem? (i := 1) rfl)⟩, fun _ => by decide +kernel, fun _ => by decide +kernel⟩
theorem vm_l189 : vm_cf 10 236 1 124 2 := ⟨RX10, vm_m124, rfl, rfl, ⟨vm_r42 _ (List.mem_of_getElem? (i := 13) rfl), vm_r42 _ (List.mem_of_getElem? (i := 14) rfl)⟩, fun _ => by decide +kernel, fun h => absurd h (by decide)⟩
theorem vm_l190 : vm_cf 10 239 0 21 1 := ⟨RX10, vm_m21, rfl, rfl, ⟨vm_r42 _ (List.mem_of_getElem? (i := 19) rfl), vm_r42 _ (List.mem_of_getElem? (i := 20) rfl), vm_r42 _ (List.mem_of_getElem? (i := 21) rfl)⟩, fun _ => by decide +kernel, fun _ => by decide +kernel⟩
theorem vm_l191 : vm_cf 10 242 0 24 0 := ⟨RX10, vm_m24, rfl, rfl, ⟨vm_r43 _ (List.mem_of_getElem? (i := 4) rfl), vm_r43 _ (List.mem_of_getElem? (i := 5) rfl), vm_r43 _ (List.mem_of_getElem? (i := 6) rfl)⟩, fun _ => by decide +kernel, fun _ => by decide +kernel⟩
theorem vm_l192 : vm_cf 10 245 0 65 600 := ⟨RX10, vm_m65, rfl, rfl, ⟨vm_r44 _ (List.mem_of_getElem? (i := 0) rfl), vm_r23 _ (List.mem_of_getElem? (i := 9) rfl), vm_r23 _ (List.mem_of_getElem? (i := 10) rfl)⟩, fun _ => by decide +kernel, fun _ => by decide +kernel⟩
theorem vm_l193 : vm_cf 10 246 0 66 600 := ⟨RX10, vm_m66, rfl, rfl, ⟨vm_r14 _ (List.mem_of_getElem? (i := 5) rfl), vm_r14 _ (List.mem_of_getElem? (i := 6) rfl), vm_r14 _ (List.mem_of_getElem? (i := 7) rfl)⟩, fun _ => by decide +kernel, fun _ => by decide +kernel⟩
theorem vm_l194 : vm_cf 10 247 0 75 700 := ⟨RX10, vm_m75, rfl, rfl, ⟨vm_r44 _ (List.mem_of_getElem? (i := 17) rfl), vm_r44 _ (List.mem_of_getElem? (i := 18) rfl), vm_r44 _ (List.mem_of_getElem? (i := 19) rfl)⟩, fun _ => by decide +kernel, fun _ => by decide +kernel⟩
theorem vm_l195 : vm_cf 10 250 0 23 0 := ⟨RX10, vm_m23, rfl, rfl, ⟨vm_r44 _ (List.mem_of_getElem? (i := 21) rfl), vm_r44 _ (List.mem_of_getElem? (i := 22) rfl), vm_r44 _ (List.mem_of_getElem? (i := 23) rfl)⟩, fun _ => by decide +kernel, fun _ => by decide +kernel⟩
theorem vm_l196 : vm_cf 10 253 0 46 400 := ⟨RX10, vm_m46, rfl, rfl, ⟨vm_r12 _ (List.mem_of_getElem? (i := 12) rfl), vm_r12 _ (List.mem_of_getElem? (i := 13) rfl), vm_r12 _ (List.mem_of_getElem? (i := 14) rfl)⟩, fun _ => by decide +kernel, fun _ => by decide +kernel⟩
theorem vm_l197 : vm_cf 10 256 0 44 400 := ⟨RX10, vm_m44, rfl, rfl, ⟨vm_r13 _ (List.mem_of_getElem? (i := 3) rfl), vm_r13 _ (List.mem_of_getElem? (i := 4) rfl), vm_r13 _ (List.mem_of_getElem? (i := 5) rfl)⟩, fun _ => by decide +kernel, fun _ => by decide +kernel⟩
theorem vm_l198 : vm_cf 10 259 0 72 701 := ⟨RX10, vm_m72, rfl, rfl, ⟨vm_r13 _ (List.mem_of_getElem? (i := 7) rfl), vm_r13 _ (List.mem_of_getElem? (i := 8) rfl), vm_r13 _ (List.mem_of_getElem? (i := 9) rfl)⟩, fun _ => by decide +kernel, fun _ => by decide +kernel⟩
theorem vm_l199 : vm_cf 10 261 0 45 400 := ⟨RX10, vm_m45, rfl, rfl, ⟨vm_r13 _ (List.mem_of_getElem? (i := 19) rfl), vm_r13 _ (List.mem_of_getElem? (i := 20) rfl), vm_r13 _ (List.mem_of_getElem? (i := 21) rfl)⟩, fun _ => by decide +kernel, fun _ => by decide +kernel⟩
theorem vm_l200 : vm_cf 11 1 5 0 0 := ⟨RX11, vm_m0, rfl, rfl, vm_r14 _ (List.mem_of_getElem? (i := 13) rfl), fun h => absurd h (by decide), fun h => absurd h (by decide)⟩
theorem vm_l201 : vm_cf 11 61 1 131 2 := ⟨RX11, vm_m131, rfl, rfl, ⟨vm_r15 _ (List.mem_of_getElem? (i := 7) rfl), vm_r15 _ (List.mem_of_getElem? (i := 8) rfl)⟩, fun _ => by decide +kernel, fun h => absurd h (by decide)⟩
theorem vm_l202 : vm_cf 11 65 1 132 4 := ⟨RX11, vm_m132, rfl, rfl, ⟨vm_r15 _ (List.mem_of_getElem? (i := 10) rfl), vm_r15 _ (List.mem_of_getElem? (i := 11) rfl)⟩, fun _ => by decide +kernel, fun h => absurd h (by decide)⟩
theorem vm_l203 : vm_cf 11 69 0 133 1000 := ⟨RX11, vm_m133, rfl, rfl, ⟨vm_r15 _ (List.mem_of_getElem? (i := 13) rfl), vm_r15 _ (List.mem_of_getElem? (i := 14) rfl), vm_r15 _ (List.mem_of_getElem? (i := 15) rfl)⟩, fun _ => by decide +kernel, fun _ => by decide +kernel⟩
theorem vm_l204 : vm_cf 11 86 1 128 3 := ⟨RX11, vm_m128, rfl, rfl, ⟨vm_r16 _ (List.mem_of_getElem? (i := 10) rfl), vm_r16 _ (List.mem_of_getElem? (i := 11) rfl)⟩, fun _ => by decide +kernel, fun h => absurd h (by decide)⟩
theorem vm_l205 : vm_cf 11 96 0 136 1000 := ⟨RX11, vm_m136, rfl, rfl, ⟨vm_r17 _ (List.mem_of_getElem? (i := 14) rfl), vm_r17 _ (List.mem_of_getElem? (i := 15) rfl), vm_r17 _ (List.mem_of_getElem? (i := 16) rfl)⟩, fun _ => by decide +kernel, fun _ => by decide +kernel⟩
theorem vm_l206 : vm_cf 11 104 1 138 1 := ⟨RX11, vm_m138, rfl, rfl, ⟨vm_r17 _ (List.mem_of_getElem? (i := 22) rfl), vm_r17 _ (List.mem_of_getElem? (i := 23) rfl)⟩, fun _ => by decide +kernel, fun h => absurd h (by decide)⟩
theorem vm_l207 : vm_cf 11 111 0 139 1002 := ⟨RX11, vm_m139, rfl, rfl, ⟨vm_r18 _ (List.mem_of_getElem? (i := 8) rfl), vm_r18 _ (List.mem_of_getElem? (i := 9) rfl), vm_r18 _ (List.mem_of_getElem? (i := 10) rfl)⟩, fun _ => by decide +kernel, fun _ => by decide +kernel⟩
theorem vm_l208 : vm_cf 11 115 0 137 1001 := ⟨RX11, vm_m137, rfl, rfl, ⟨vm_r18 _ (List.mem_of_getElem? (i := 16) rfl), vm_r18 _ (List.mem_of_getElem? (i := 17) rfl), vm_r18 _ (List.mem_of_getElem? (i := 18) rfl)⟩, fun _ => by decide +kernel, fun _ => by decide +kernel⟩
theorem vm_l209 : vm_cf 11 118 0 140 1000 := ⟨RX11, vm_m140, rfl, rfl, ⟨vm_r17 _ (List.mem_of_getElem? (i := 18) rfl), vm_r17 _ (List.mem_of_getElem? (i := 19) rfl), vm_r17 _ (List.mem_of_getElem? (i := 20) rfl)⟩, fun _ => by decide +kernel, fun _ => by decide +kernel⟩
theorem vm_l210 : vm_cf 11 122 0 141 1000 := ⟨RX11, vm_m141, rfl, rfl, ⟨vm_r18 _ (List.mem_of_getElem? (i := 3) rfl), vm_r18 _ (List.mem_of_getElem? (i := 4) rfl), vm_r18 _ (List.mem_of_getElem? (i := 5) rfl)⟩, fun _ => by decide +kernel, fun _ => by decide +kernel⟩
theorem vm_l211 : vm_cf 11 125 0 142 1000 := ⟨RX11, vm_m142, rfl, rfl, ⟨vm_r18 _ (List.mem_of_getElem? (i := 12) rfl), vm_r18 _ (List.mem_of_getElem? (i := 13) rfl), vm_r18 _ (List.mem_of_getElem? (i := 14) rfl)⟩, fun _ => by decide +kernel, fun _ => by decide +kernel⟩
theorem vm_l212 : vm_cf 11 128 0 143 1000 := ⟨RX11, vm_m143, rfl, rfl, ⟨vm_r17 _ (List.mem_of_getElem? (i := 10) rfl), vm_r17 _ (List.mem_of_getElem? (i := 11) rfl), vm_r17 _ (List.mem_of_getElem? (i := 12) rfl)⟩, fun _ => by decide +kernel, fun _ => by decide +kernel⟩
theorem vm_l213 : vm_cf 11 131 0 144 1000 := ⟨RX11, vm_m144, rfl, rfl, ⟨vm_r17 _ (List.mem_of_getElem? (i := 5) rfl), vm_r17 _ (List.mem_of_getElem? (i := 6) rfl), vm_r17 _ (List.mem_of_getElem? (i := 7) rfl)⟩, fun _ => by decide +kernel, fun _ => by decide +kernel⟩
theorem vm_l214 : vm_cf 11 134 0 146 1000 := ⟨RX11, vm_m146, rfl, rfl, ⟨vm_r19 _ (List.mem_of_getElem? (i := 5) rfl), vm_r19 _ (List.mem_of_getElem? (i := 6) rfl), vm_r19 _ (List.mem_of_getElem? (i := 7) rfl)⟩, fun _ => by decide +kernel, fun _ => by decide +kernel⟩
theorem vm_l215 : vm_cf 11 137 1 130 5 := ⟨RX11, vm_m130, rfl, rfl, ⟨vm_r19 _ (List.mem_of_getElem? (i := 9) rfl), vm_r19 _ (List.mem_of_getElem? (i := 10) rfl)⟩, fun _ => by decide +kernel, fun h => absurd h (by decide)⟩
theorem vm_l216 : vm_cf 11 143 0 151 1002 := ⟨RX11, vm_m151, rfl, rfl, ⟨vm_r20 _ (List.mem_of_getElem? (i := 12) rfl), vm_r20 _ (List.mem_of_getElem? (i := 13) rfl), vm_r20 _ (List.mem_of_getElem? (i := 14) rfl)⟩, fun _ => by decide +kernel, fun _ => by decide +kernel⟩
theorem vm_l217 : vm_cf 11 147 0 148 1001 := ⟨RX11, vm_m148, rfl, rfl, ⟨vm_r20 _ (List.mem_of_getElem? (i := 4) rfl), vm_r20 _ (List.mem_of_getElem? (i := 5) rfl), vm_r20 _ (List.mem_of_getElem? (i := 6) rfl)⟩, fun _ => by decide +kernel, fun _ => by decide +kernel⟩
theorem vm_l218 : vm_cf 11 150 1 149 1 := ⟨RX11, vm_m149, rfl, rfl, ⟨vm_r20 _ (List.mem_of_getElem? (i := 8) rfl), vm_r20 _ (List.mem_of_getElem? (i := 9) rfl)⟩, fun _ => by decide +kernel, fun h => absurd h (by decide)⟩
theorem vm_l219 : vm_cf 11 155 0 153 1001 := ⟨RX11, vm_m153, rfl, rfl, ⟨vm_r21 _ (List.mem_of_getElem? (i := 13) rfl), vm_r21 _ (List.mem_of_getElem? (i := 14) rfl), vm_r21 _ (List.mem_of_getElem? (i := 15) rfl)⟩, fun _ => by decide +kernel, fun _ => by decide +kernel⟩
theorem vm_l220 : vm_cf 11 159 0 150 1001 := ⟨RX11, vm_m150, rfl, rfl, ⟨vm_r22 _ (List.mem_of_getElem? (i := 10) rfl), vm_r22 _ (List.mem_of_getElem? (i := 11) rfl), vm_r22 _ (List.mem_of_getElem? (i := 12) rfl)⟩, fun _ => by decide +kernel, fun _ => by decide +kernel⟩
theorem vm_l221 : vm_cf 11 162 1 157 2 := ⟨RX11, vm_m157, rfl, rfl, ⟨vm_r25 _ (List.mem_of_getElem? (i := 17) rfl), vm_r25 _ (List.mem_of_getElem? (i := 18) rfl)⟩, fun _ => by decide +kernel, fun h => absurd h (by decide)⟩
theorem vm_l222 : vm_cf 11 165 1 160 2 := ⟨RX11, vm_m160, rfl, rfl, ⟨vm_r25 _ (List.mem_of_getElem? (i := 20) rfl), vm_r25 _ (List.mem_of_getElem? (i := 21) rfl)⟩, fun _ => by decide +kernel, fun h => absurd h (by decide)⟩
theorem vm_l223 : vm_cf 11 168 1 158 3 := ⟨RX11, vm_m158, rfl, rfl, ⟨vm_r27 _ (List.mem_of_getElem? (i := 0) rfl), vm_r27 _ (List.mem_of_getElem? (i := 1) rfl)⟩, fun _ => by decide +kernel, fun h => absurd h (by decide)⟩
theorem vm_l224 : vm_cf 11 172 1 161 3 := ⟨RX11, vm_m161, rfl, rfl, ⟨vm_r25 _ (List.mem_of_getElem? (i := 6) rfl), vm_r25 _ (List.mem_of_getElem? (i := 7) rfl)⟩, fun _ => by decide +kernel, fun h => absurd h (by decide)⟩
theorem vm_l225 : vm_cf 11 176 0 165 1000 := ⟨RX11, vm_m165, rfl, rfl, ⟨vm_r25 _ (List.mem_of_getElem? (i := 9) rfl), vm_r25 _ (List.mem_of_getElem? (i := 10) rfl), vm_r25 _ (List.mem_of_getElem? (i := 11) rfl)⟩, fun _ => by decide +kernel, fun _ => by decide +kernel⟩
theorem vm_l226 : vm_cf 11 179 0 162 1003 := ⟨RX11, vm_m162, rfl, rfl, ⟨vm_r25 _ (List.mem_of_getElem? (i := 13) rfl), vm_r25 _ (List.mem_of_getElem? (i := 14) rfl), vm_r25 _ (List.mem_of_getElem? (i := 15) rfl)⟩, fun _ => by decide +kernel, fun _ => by decide +kernel⟩
theorem vm_l227 : vm_cf 11 185 0 163 1001 := ⟨RX11, vm_m163, rfl, rfl, ⟨vm_r26 _ (List.mem_of_getElem? (i := 20) rfl), vm_r26 _ (List.mem_of_getElem? (i := 21) rfl), vm_r26 _ (List.mem_of_getElem? (i := 22) rfl)⟩, fun _ => by decide +kernel, fun _ => by decide +kernel⟩
theorem vm_l228 : vm_cf 11 189 0 164 1001 := ⟨RX11, vm_m164, rfl, rfl, ⟨vm_r27 _ (List.mem_of_getElem? (i := 3) rfl), vm_r27 _ (List.mem_of_getElem? (i := 4) rfl), vm_r27 _ (List.mem_of_getElem? (i := 5) rfl)⟩, fun _ => by decide +kernel, fun _ => by decide +kernel⟩
theorem vm_l229 : vm_cf 11 193 1 168 3 := ⟨RX11, vm_m168, rfl, rfl, ⟨vm_r28 _ (List.mem_of_getElem? (i := 3) rfl), vm_r28 _ (List.mem_of_getElem? (i := 4) rfl)⟩, fun _ => by decide +kernel, fun h => absurd h (by decide)⟩
theorem vm_l230 : vm_cf 11 196 1 169 3 := ⟨RX11, vm_m169, rfl, rfl, ⟨vm_r28 _ (List.mem_of_getElem? (i := 6) rfl), vm_r28 _ (List.mem_of_getElem? (i := 7) rfl)⟩, fun _ => by decide +kernel, fun h => absurd h (by decide)⟩
theorem vm_l231 : vm_cf 11 199 0 159 1001 := ⟨RX11, vm_m159, rfl, rfl, ⟨vm_r28 _ (List.mem_of_getElem? (i := 23) rfl), vm_r29 _ (List.mem_of_getElem? (i := 0) rfl), vm_r29 _ (List.mem_of_getElem? (i := 1) rfl)⟩, fun _ => by decide +kernel, fun _ => by decide +kernel⟩
theorem vm_l232 : vm_cf 11 202 0 172 1003 := ⟨RX11, vm_m172, rfl, rfl, ⟨vm_r29 _ (List.mem_of_getElem? (i := 19) rfl), vm_r29 _ (List.mem_of_getElem? (i := 20) rfl), vm_r29 _ (List.mem_of_getElem? (i := 21) rfl)⟩, fun _ => by decide +kernel, fun _ => by decide +kernel⟩
theorem vm_l233 : vm_cf 11 206 0 178 1001 := ⟨RX11, vm_m178, rfl, rfl, ⟨vm_r33 _ (List.mem_of_getElem? (i := 9) rfl), vm_r33 _ (List.mem_of_getElem? (i := 10) rfl), vm_r33 _ (List.mem_of_getElem? (i := 11) rfl)⟩, fun _ => by decide +kernel, fun _ => by decide +kernel⟩
theorem vm_l234 : vm_cf 11 210 0 177 1003 := ⟨RX11, vm_m177, rfl, rfl, ⟨vm_r33 _ (List.mem_of_getElem? (i := 5) rfl), vm_r33 _ (List.mem_of_getElem? (i := 6) rfl), vm_r33 _ (List.mem_of_getElem? (i := 7) rfl)⟩, fun _ => by decide +kernel, fun _ => by decide +kernel⟩
theorem vm_l235 : vm_cf 11 215 0 176 1001 := ⟨RX11, vm_m176, rfl, rfl, ⟨vm_r32 _ (List.mem_of_getElem? (i := 21) rfl), vm_r32 _ (List.mem_of_getElem? (i := 22) rfl), vm_r32 _ (List.mem_of_getElem? (i := 23) rfl)⟩, fun _ => by decide +kernel, fun _ => by decide +kernel⟩
theorem vm_l236 : vm_cf 11 219 0 179 1002 := ⟨RX11, vm_m179, rfl, rfl, ⟨vm_r33 _ (List.mem_of_getElem? (i := 1) rfl), vm_r33 _ (List.mem_of_getElem? (i := 2) rfl), vm_r33 _ (List.mem_of_getElem? (i := 3) rfl)⟩, fun _ => by decide +kernel, fun _ => by decide +kernel⟩
theorem vm_l237 : vm_cf 11 222 0 152 1002 := ⟨RX11, vm_m152, rfl, rfl, ⟨vm_r35 _ (List.mem_of_getElem? (i := 20) rfl), vm_r35 _ (List.mem_of_getElem? (i := 21) rfl), vm_r35 _ (List.mem_of_getElem? (i := 22) rfl)⟩, fun _ => by decide +kernel, fun _ => by decide +kernel⟩
theorem vm_l238 : vm_cf 11 225 0 181 1003 := ⟨RX11, vm_m181, rfl, rfl, ⟨vm_r35 _ (List.mem_of_getElem? (i := 16) rfl), vm_r35 _ (List.mem_of_getElem? (i := 17) rfl), vm_r35 _ (List.mem_of_getElem? (i := 18) rfl)⟩, fun _ => by decide +kernel, fun _ => by decide +kernel⟩
theorem vm_l239 : vm_cf 11 228 0 182 1002 := ⟨RX11, vm_m182, rfl, rfl, ⟨vm_r35 _ (List.mem_of_getElem? (i := 12) rfl), vm_r35 _ (List.mem_of_getElem? (i := 13) rfl), vm_r35 _ (List.mem_of_getElem? (i := 14) rfl)⟩, fun _ => by decide +kernel, fun _ => by decide +kernel⟩
theorem vm_l240 : vm_cf 11 231 0 185 1001 := ⟨RX11, vm_m185, rfl, rfl, ⟨vm_r37 _ (List.mem_of_getElem? (i := 11) rfl), vm_r37 _ (List.mem_of_getElem? (i := 12) rfl), vm_r37 _ (List.mem_of_getElem? (i := 13) rfl)⟩, fun _ => by decide +kernel, fun _ => by decide +kernel⟩
theorem vm_l241 : vm_cf 11 234 0 184 1002 := ⟨RX11, vm_m184, rfl, rfl, ⟨vm_r37 _ (List.mem_of_getElem? (i := 7) rfl), vm_r37 _ (List.mem_of_getElem? (i := 8) rfl), vm_r37 _ (List.mem_of_getElem? (i := 9) rfl)⟩, fun _ => by decide +kernel, fun _ => by decide +kernel⟩
theorem vm_l242 : vm_cf 11 237 1 129 2 := ⟨RX11, vm_m129, rfl, rfl, ⟨vm_r38 _ (List.mem_of_getElem? (i := 0) rfl), vm_r38 _ (List.mem_of_getElem? (i := 1) rfl)⟩, fun _ => by decide +kernel, fun h => absurd h (by decide)⟩
theorem vm_l243 : vm_cf 11 240 0 188 1004 := ⟨RX11, vm_m188, rfl, rfl, ⟨vm_r38 _ (List.mem_of_getElem? (i := 15) rfl), vm_r38 _ (List.mem_of_getElem? (i := 16) rfl), vm_r38 _ (List.mem_of_getElem? (i := 17) rfl)⟩, fun _ => by decide +kernel, fun _ => by decide +kernel⟩
theorem vm_l244 : vm_cf 11 248 1 194 3 := ⟨RX11, vm_m194, rfl, rfl, ⟨vm_r42 _ (List.mem_of_getElem? (i := 6) rfl), vm_r42 _ (List.mem_of_getElem? (i := 7) rfl)⟩, fun _ => by decide +kernel, fun h => absurd h (by decide)⟩
theorem vm_l245 : vm_cf 11 262 1 196 1 := ⟨RX11, vm_m196, rfl, rfl, ⟨vm_r43 _ (List.mem_of_getElem? (i := 17) rfl), vm_r43 _ (List.mem_of_getElem? (i := 18) rfl)⟩, fun _ => by decide +kernel, fun h => absurd h (by decide)⟩
theorem vm_l246 : vm_cf 11 265 0 200 1000 := ⟨RX11, vm_m200, rfl, rfl, ⟨vm_r45 _ (List.mem_of_getElem? (i := 5) rfl), vm_r45 _ (List.mem_of_getElem? (i := 6) rfl), vm_r45 _ (List.mem_of_getElem? (i := 7) rfl)⟩, fun _ => by decide +kernel, fun _ => by decide +kernel⟩
theorem vm_l247 : vm_cf 12 9 2 92 0 := ⟨RL, vm_m92, rfl, rfl, ⟨vm_r1 _ (List.mem_of_getElem? (i := 6) rfl), vm_r1 _ (List.mem_of_getElem? (i := 7) rfl), rfl, rfl⟩, fun _ => by decide +kernel, fun h => absurd h (by decide)⟩
theorem vm_l248 : vm_cf 12 12 2 127 0 := ⟨RL, vm_m127, rfl, rfl, ⟨vm_r14 _ (List.mem_of_getElem? (i := 10) rfl), vm_r14 _ (List.mem_of_getElem? (i := 11) rfl), rfl, rfl⟩, fun _ => by decide +kernel, fun h => absurd h (by decide)⟩
theorem vm_l249 : vm_cf 12 13 0 93 901 := ⟨RL, vm_m93, rfl, rfl, ⟨vm_r15 _ (List.mem_of_getElem? (i := 20) rfl), vm_r15 _ (List.mem_of_getElem? (i := 21) rfl), vm_r15 _ (List.mem_of_getElem? (i := 22) rfl)⟩, fun _ => by decide +kernel, fun _ => by decide +kernel⟩
theorem vm_l250 : vm_cf 12 17 0 134 1001 := ⟨RL, vm_m134, rfl, rfl, ⟨vm_r16 _ (List.mem_of_getElem? (i := 3) rfl), vm_r16 _ (List.mem_of_getElem? (i := 4) rfl), vm_r16 _ (List.mem_of_getElem? (i := 5) rfl)⟩, fun _ => by decide +kernel, fun _ => by decide +kernel⟩
theorem vm_l251 : vm_cf 12 18 0 94 900 := ⟨RL, vm_m94, rfl, rfl, ⟨vm_r16 _ (List.mem_of_getElem? (i := 13) rfl), vm_r16 _ (List.mem_of_getElem? (i := 14) rfl), vm_r16 _ (List.mem_of_getElem? (i := 15) rfl)⟩, fun _ => by decide +kernel, fun _ => by decide +kernel⟩
theorem vm_l252 : vm_cf 12 22 0 135 1000 := ⟨RL, vm_m135, rfl, rfl, ⟨vm_r16 _ (List.mem_of_getElem? (i := 17) rfl), vm_r16 _ (List.mem_of_getElem? (i := 18) rfl), vm_r16 _ (List.mem_of_getElem? (i := 19) rfl)⟩, fun _ => by decide +kernel, fun _ => by decide +kernel⟩
theorem vm_l253 : vm_cf 12 23 0 95 900 := ⟨RL, vm_m95, rfl, rfl, ⟨vm_r16 _ (List.mem_of_getElem? (i := 21) rfl), vm_r16 _ (List.mem_of_getElem? (i := 22) rfl), vm_r16 _ (List.mem_of_getElem? (i := 23) rfl)⟩, fun _ => by decide +kernel, fun _ => by decide +kernel⟩
theorem vm_l254 : vm_cf 12 26 0 145 1000 := ⟨RL, vm_m145, rfl, rfl, ⟨vm_r17 _ (List.mem_of_getElem? (i := 1) rfl), vm_r17 _ (List.mem_of_getElem? (i := 2) rfl), vm_r17 _ (List.mem_of_getElem? (i := 3) rfl)⟩, fun _ => by decide +kernel, fun _ => by decide +kernel⟩
theorem vm_l255 : vm_cf 12 27 0 96 900 := ⟨RL, vm_m96, rfl, rfl, ⟨vm_r18 _ (List.mem_of_getElem? (i := 20) rfl), vm_r18 _ (List.mem_of_getElem? (i := 21) rfl), vm_r18 _ (List.mem_of_getElem? (i := 22) rfl)⟩, fun _ => by decide +kernel, fun _ => by decide +kernel⟩
theorem vm_l256 : vm_cf 12 30 0 147 1000 := ⟨RL, vm_m147, rfl, rfl, ⟨vm_r19 _ (List.mem_of_getElem? (i := 1) rfl), vm_r19 _ (List.mem_of_getElem? (i := 2) rfl), vm_r19 _ (List.mem_of_getElem? (i := 3) rfl)⟩, fun _ => by decide +kernel, fun _ => by decide +kernel⟩
theorem vm_l257 : vm_cf 12 31 0 97 902 := ⟨RL, vm_m97, rfl, rfl, ⟨vm_r19 _ (List.mem_of_getElem? (i := 12) rfl), vm_r19 _ (List.mem_of_getElem? (i := 13) rfl), vm_r19 _ (List.mem_of_getElem? (i := 14) rfl)⟩, fun _ => by decide +kernel, fun _ => by decide +kernel⟩
theorem vm_l258 : vm_cf 12 35 0 154 1002 := ⟨RL, vm_m154, rfl, rfl, ⟨vm_r20 _ (List.mem_of_getElem? (i := 0) rfl), vm_r20 _ (List.mem_of_getElem? (i := 1) rfl), vm_r20 _ (List.mem_of_getElem? (i := 2) rfl)⟩, fun _ => by decide +kernel, fun _ => by decide +kernel⟩
theorem vm_l259 : vm_cf 12 36 0 98 901 := ⟨RL, vm_m98, rfl, rfl, ⟨vm_r20 _ (List.mem_of_getElem? (i := 16) rfl), vm_r20 _ (List.mem_of_getElem? (i := 17) rfl), vm_r20 _ (List.mem_of_getElem? (i := 18) rfl)⟩, fun _ => by decide +kernel, fun _ => by decide +kernel⟩
theorem vm_l260 : vm_cf 12 39 0 155 1001 := ⟨RL, vm_m155, rfl, rfl, ⟨vm_r21 _ (List.mem_of_getElem? (i := 8) rfl), vm_r21 _ (List.mem_of_getElem? (i := 9) rfl), vm_r21 _ (List.mem_of_getElem? (i := 10) rfl)⟩, fun _ => by decide +kernel, fun _ => by decide +kernel⟩
theorem vm_l261 : vm_cf 12 40 0 99 902 := ⟨RL, vm_m99, rfl, rfl, ⟨vm_r21 _ (List.mem_of_getElem? (i := 17) rfl), vm_r21 _ (List.mem_of_getElem? (i := 18) rfl), vm_r21 _ (List.mem_of_getElem? (i := 19) rfl)⟩, fun _ => by decide +kernel, fun _ => by decide +kernel⟩
theorem vm_l262 : vm_cf 12 43 0 156 1002 := ⟨RL, vm_m156, rfl, rfl, ⟨vm_r22 _ (List.mem_of_getElem? (i := 6) rfl), vm_r22 _ (List.mem_of_getElem? (i := 7) rfl), vm_r22 _ (List.mem_of_getElem? (i := 8) rfl)⟩, fun _ => by decide +kernel, fun _ => by decide +kernel⟩
theorem vm_l263 : vm_cf 12 44 0 100 902 := ⟨RL, vm_m100, rfl, rfl, ⟨vm_r22 _ (List.mem_of_getElem? (i := 14) rfl), vm_r22 _ (List.mem_of_getElem? (i := 15) rfl), vm_r22 _ (List.mem_of_getElem? (i := 16) rfl)⟩, fun _ => by decide +kernel, fun _ => by decide +kernel⟩
theorem vm_l264 : vm_cf 12 47 0 166 1002 := ⟨RL, vm_m166, rfl, rfl, ⟨vm_r25 _ (List.mem_of_getElem? (i := 2) rfl), vm_r25 _ (List.mem_of_getElem? (i := 3) rfl), vm_r25 _ (List.mem_of_getElem? (i := 4) rfl)⟩, fun _ => by decide +kernel, fun _ => by decide +kernel⟩
theorem vm_l265 : vm_cf 12 48 0 101 901 := ⟨RL, vm_m101, rfl, rfl, ⟨vm_r25 _ (List.mem_of_getElem? (i := 23) rfl), vm_r26 _ (List.mem_of_getElem? (i := 0) rfl), vm_r26 _ (List.mem_of_getElem? (i := 1) rfl)⟩, fun _ => by decide +kernel, fun _ => by decide +kernel⟩
theorem vm_l266 : vm_cf 12 51 0 167 1001 := ⟨RL, vm_m167, rfl, rfl, ⟨vm_r26 _ (List.mem_of_getElem? (i := 15) rfl), vm_r26 _ (List.mem_of_getElem? (i := 16) rfl), vm_r26 _ (List.mem_of_getElem? (i := 17) rfl)⟩, fun _ => by decide +kernel, fun _ => by decide +kernel⟩
theorem vm_l267 : vm_cf 12 52 0 102 902 := ⟨RL, vm_m102, rfl, rfl, ⟨vm_r27 _ (List.mem_of_getElem? (i := 7) rfl), vm_r27 _ (List.mem_of_getElem? (i := 8) rfl), vm_r27 _ (List.mem_of_getElem? (i := 9) rfl)⟩, fun _ => by decide +kernel, fun _ => by decide +kernel⟩
theorem vm_l268 : vm_cf 12 55 0 170 1002 := ⟨RL, vm_m170, rfl, rfl, ⟨vm_r27 _ (List.mem_of_getElem? (i := 23) rfl), vm_r28 _ (List.mem_of_getElem? (i := 0) rfl), vm_r28 _ (List.mem_of_getElem? (i := 1) rfl)⟩, fun _ => by decide +kernel, fun _ => by decide +kernel⟩
theorem vm_l269 : vm_cf 12 56 0 103 902 := ⟨RL, vm_m103, rfl, rfl, ⟨vm_r28 _ (List.mem_of_getElem? (i := 9) rfl), vm_r28 _ (List.mem_of_getElem? (i := 10) rfl), vm_r28 _ (List.mem_of_getElem? (i := 11) rfl)⟩, fun _ => by decide +kernel, fun _ => by decide +kernel⟩
theorem vm_l270 : vm_cf 12 59 0 171 1002 := ⟨RL, vm_m171, rfl, rfl, ⟨vm_r28 _ (List.mem_of_getElem? (i := 19) rfl), vm_r28 _ (List.mem_of_getElem? (i := 20) rfl), vm_r28 _ (List.mem_of_getElem? (i := 21) rfl)⟩, fun _ => by decide +kernel, fun _ => by decide +kernel⟩
theorem vm_l271 : vm_cf 12 60 0 104 903 := ⟨RL, vm_m104, rfl, rfl, ⟨vm_r29 _ (List.mem_of_getElem? (i := 3) rfl), vm_r29 _ (List.mem_of_getElem? (i := 4) rfl), vm_r29 _ (List.mem_of_getElem? (i := 5) rfl)⟩, fun _ => by decide +kernel, fun _ => by decide +kernel⟩
theorem vm_l272 : vm_cf 12 64 0 173 1003 := ⟨RL, vm_m173, rfl, rfl, ⟨vm_r29 _ (List.mem_of_getElem? (i := 15) rfl), vm_r29 _ (List.mem_of_getElem? (i := 16) rfl), vm_r29 _ (List.mem_of_getElem? (i := 17) rfl)⟩, fun _ => by decide +kernel, fun _ => by decide +kernel⟩
theorem vm_l273 : vm_cf 12 65 0 105 900 := ⟨RL, vm_m105, rfl, rfl, ⟨vm_r29 _ (List.mem_of_getElem? (i := 23) rfl), vm_r30 _ (List.mem_of_getElem? (i := 0) rfl), vm_r30 _ (List.mem_of_getElem? (i := 1) rfl)⟩, fun _ => by decide +kernel, fun _ => by decide +kernel⟩
theorem vm_l274 : vm_cf 12 68 0 174 1000 := ⟨RL, vm_m174, rfl, rfl, ⟨vm_r30 _ (List.mem_of_getElem? (i := 11) rfl), vm_r30 _ (List.mem_of_getElem? (i := 12) rfl), vm_r30 _ (List.mem_of_getElem? (i := 13) rfl)⟩, fun _ => by decide +kernel, fun _ => by decide +kernel⟩
theorem vm_l275 : vm_cf 12 69 0 106 901 := ⟨RL, vm_m106, rfl, rfl, ⟨vm_r30 _ (List.mem_of_getElem? (i := 15) rfl), vm_r30 _ (List.mem_of_getElem? (i := 16) rfl), vm_r30 _ (List.mem_of_getElem? (i := 17) rfl)⟩, fun _ => by decide +kernel, fun _ => by decide +kernel⟩
theorem vm_l276 : vm_cf 12 72 0 175 1001 := ⟨RL, vm_m175, rfl, rfl, ⟨vm_r30 _ (List.mem_of_getElem? (i := 23) rfl), vm_r31 _ (List.mem_of_getElem? (i := 0) rfl), vm_r31 _ (List.mem_of_getElem? (i := 1) rfl)⟩, fun _ => by decide +kernel, fun _ => by decide +kernel⟩
theorem vm_l277 : vm_cf 12 73 0 107 903 := ⟨RL, vm_m107, rfl, rfl, ⟨vm_r31 _ (List.mem_of_getElem? (i := 3) rfl), vm_r31 _ (List.mem_of_getElem? (i := 4) rfl), vm_r31 _ (List.mem_of_getElem? (i := 5) rfl)⟩, fun _ => by decide +kernel, fun _ => by decide +kernel⟩
theorem vm_l278 : vm_cf 12 76 0 180 1003 := ⟨RL, vm_m180, rfl, rfl, ⟨vm_r32 _ (List.mem_of_getElem? (i := 15) rfl), vm_r32 _ (List.mem_of_getElem? (i := 16) rfl), vm_r32 _ (List.mem_of_getElem? (i := 17) rfl)⟩, fun _ => by decide +kernel, fun _ => by decide +kernel⟩
theorem vm_l279 : vm_cf 12 77 0 108 903 := ⟨RL, vm_m108, rfl, rfl, ⟨vm_r33 _ (List.mem_of_getElem? (i := 13) rfl), vm_r33 _ (List.mem_of_getElem? (i := 14) rfl), vm_r33 _ (List.mem_of_getElem? (i := 15) rfl)⟩, fun _ => by decide +kernel, fun _ => by decide +kernel⟩
theorem vm_l280 : vm_cf 12 80 0 183 1003 := ⟨RL, vm_m183, rfl, rfl, ⟨vm_r35 _ (List.mem_of_getElem? (i := 8) rfl), vm_r35 _ (List.mem_of_getElem? (i := 9) rfl), vm_r35 _ (List.mem_of_getElem? (i := 10) rfl)⟩, fun _ => by decide +kernel, fun _ => by decide +kernel⟩
theorem vm_l281 : vm_cf 12 81 0 109 903 := ⟨RL, vm_m109, rfl, rfl, ⟨vm_r36 _ (List.mem_of_getElem? (i := 0) rfl), vm_r36 _ (List.mem_of_getElem? (i := 1) rfl), vm_r36 _ (List.mem_of_getElem? (i := 2) rfl)⟩, fun _ => by decide +kernel, fun _ => by decide +kernel⟩
theorem vm_l282 : vm_cf 12 84 0 186 1003 := ⟨RL, vm_m186, rfl, rfl, ⟨vm_r37 _ (List.mem_of_getElem? (i := 3) rfl), vm_r37 _ (List.mem_of_getElem? (i := 4) rfl), vm_r37 _ (List.mem_of_getElem? (i := 5) rfl)⟩, fun _ => by decide +kernel, fun _ => by decide +kernel⟩
theorem vm_l283 : vm_cf 12 85 0 110 901 := ⟨RL, vm_m110, rfl, rfl, ⟨vm_r37 _ (List.mem_of_getElem? (i := 15) rfl), vm_r37 _ (List.mem_of_getElem? (i := 16) rfl), vm_r37 _ (List.mem_of_getElem? (i := 17) rfl)⟩, fun _ => by decide +kernel, fun _ => by decide +kernel⟩
theorem vm_l284 : vm_cf 12 88 0 187 1001 := ⟨RL, vm_m187, rfl, rfl, ⟨vm_r37 _ (List.mem_of_getElem? (i := 20) rfl), vm_r37 _ (List.mem_of_getElem? (i := 21) rfl), vm_r37 _ (List.mem_of_getElem? (i := 22) rfl)⟩, fun _ => by decide +kernel, fun _ => by decide +kernel⟩
theorem vm_l285 : vm_cf 12 89 0 111 903 := ⟨RL, vm_m111, rfl, rfl, ⟨vm_r38 _ (List.mem_of_getElem? (i := 3) rfl), vm_r38 _ (List.mem_of_getElem? (i := 4) rfl), vm_r38 _ (List.mem_of_getElem? (i := 5) rfl)⟩, fun _ => by decide +kernel, fun _ => by decide +kernel⟩
theorem vm_l286 : vm_cf 12 92 0 189 1003 := ⟨RL, vm_m189, rfl, rfl, ⟨vm_r38 _ (List.mem_of_getElem? (i := 11) rfl), vm_r38 _ (List.mem_of_getElem? (i := 12) rfl), vm_r38 _ (List.mem_of_getElem? (i := 13) rfl)⟩, fun _ => by decide +kernel, fun _ => by decide +kernel⟩
theorem vm_l287 : vm_cf 12 93 0 112 901 := ⟨RL, vm_m112, rfl, rfl, ⟨vm_r38 _ (List.mem_of_getElem? (i := 19) rfl), vm_r38 _ (List.mem_of_getElem? (i := 20) rfl), vm_r38 _ (List.mem_of_getElem? (i := 21) rfl)⟩, fun _ => by decide +kernel, fun _ => by decide +kernel⟩
theorem vm_l288 : vm_cf 12 96 0 190 1001 := ⟨RL, vm_m190, rfl, rfl, ⟨vm_r38 _ (List.mem_of_getElem? (i := 23) rfl), vm_r39 _ (List.mem_of_getElem? (i := 0) rfl), vm_r39 _ (List.mem_of_getElem? (i := 1) rfl)⟩, fun _ => by decide +kernel, fun _ => by decide +kernel⟩
theorem vm_l289 : vm_cf 12 97 0 113 900 := ⟨RL, vm_m113, rfl, rfl, ⟨vm_r39 _ (List.mem_of_getElem? (i := 3) rfl), vm_r39 _ (List.mem_of_getElem? (i := 4) rfl), vm_r39 _ (List.mem_of_getElem? (i := 5) rfl)⟩, fun _ => by decide +kernel, fun _ => by decide +kernel⟩
theorem vm_l290 : vm_cf 12 100 0 191 1000 := ⟨RL, vm_m191, rfl, rfl, ⟨vm_r39 _ (List.mem_of_getElem? (i := 7) rfl), vm_r39 _ (List.mem_of_getElem? (i := 8) rfl), vm_r39 _ (List.mem_of_getElem? (i := 9) rfl)⟩, fun _ => by decide +kernel, fun _ => by decide +kernel⟩
theorem vm_l291 : vm_cf 12 101 0 114 901 := ⟨RL, vm_m114, rfl, rfl, ⟨vm_r39 _ (List.mem_of_getElem? (i := 11) rfl), vm_r39 _ (List.mem_of_getElem? (i := 12) rfl), vm_r39 _ (List.mem_of_getElem? (i := 13) rfl)⟩, fun _ => by decide +kernel, fun _ => by decide +kernel⟩
theorem vm_l292 : vm_cf 12 104 0 192 1001 := ⟨RL, vm_m192, rfl, rfl, ⟨vm_r39 _ (List.mem_of_getElem? (i := 23) rfl), vm_r40 _ (List.mem_of_getElem? (i := 0) rfl), vm_r40 _ (List.mem_of_getElem? (i := 1) rfl)⟩, fun _ => by decide +kernel, fun _ => by decide +kernel⟩
theorem vm_l293 : vm_cf 12 105 0 115 903 := ⟨RL, vm_m115, rfl, rfl, ⟨vm_r40 _ (List.mem_of_getElem? (i := 3) rfl), vm_r40 _ (List.mem_of_getElem? (i := 4) rfl), vm_r40 _ (List.mem_of_getElem? (i := 5) rfl)⟩, fun _ => by decide +kernel, fun _ => by decide +kernel⟩
theorem vm_l294 : vm_cf 12 108 0 193 1003 := ⟨RL, vm_m193, rfl, rfl, ⟨vm_r40 _ (List.mem_of_getElem? (i := 17) rfl), vm_r40 _ (List.mem_of_getElem? (i := 18) rfl), vm_r40 _ (List.mem_of_getElem? (i := 19) rfl)⟩, fun _ => by decide +kernel, fun _ => by decide +kernel⟩
theorem vm_l295 : vm_cf 12 109 0 116 904 := ⟨RL, vm_m116, rfl, rfl, ⟨vm_r40 _ (List.mem_of_getElem? (i := 22) rfl), vm_r40 _ (List.mem_of_getElem? (i := 23) rfl), vm_r41 _ (List.mem_of_getElem? (i := 0) rfl)⟩, fun _ => by decide +kernel, fun _ => by decide +kernel⟩
theorem vm_l296 : vm_cf 12 113 0 195 1004 := ⟨RL, vm_m195, rfl, rfl, ⟨vm_r42 _ (List.mem_of_getElem? (i := 1) rfl), vm_r42 _ (List.mem_of_getElem? (i := 2) rfl), vm_r42 _ (List.mem_of_getElem? (i := 3) rfl)⟩, fun _ => by decide +kernel, fun _ => by decide +kernel⟩
theorem vm_l297 : vm_cf 12 114 0 117 903 := ⟨RL, vm_m117, rfl, rfl, ⟨vm_r42 _ (List.mem_of_getElem? (i := 9) rfl), vm_r42 _ (List.mem_of_getElem? (i := 10) rfl), vm_r42 _ (List.mem_of_getElem? (i := 11) rfl)⟩, fun _ => by decide +kernel, fun _ => by decide +kernel⟩
theorem vm_l298 : vm_cf 12 117 0 197 1003 := ⟨RL, vm_m197, rfl, rfl, ⟨vm_r43 _ (List.mem_of_getElem? (i := 8) rfl), vm_r43 _ (List.mem_of_getElem? (i := 9) rfl), vm_r43 _ (List.mem_of_getElem? (i := 10) rfl)⟩, fun _ => by decide +kernel, fun _ => by decide +kernel⟩
theorem vm_l299 : vm_cf 12 118 0 118 900 := ⟨RL, vm_m118, rfl, rfl, ⟨vm_r43 _ (List.mem_of_getElem? (i := 20) rfl), vm_r43 _ (List.mem_of_getElem? (i := 21) rfl), vm_r43 _ (List.mem_of_getElem? (i := 22) rfl)⟩, fun _ => by decide +kernel, fun _ => by decide +kernel⟩
theorem vm_l300 : vm_cf 12 121 0 198 1000 := ⟨RL, vm_m198, rfl, rfl, ⟨vm_r44 _ (List.mem_of_getElem? (i := 1) rfl), vm_r44 _ (List.mem_of_getElem? (i := 2) rfl), vm_r44 _ (List.mem_of_getElem? (i := 3) rfl)⟩, fun _ => by decide +kernel, fun _ => by decide +kernel⟩
theorem vm_l301 : vm_cf 12 122 0 119 900 := ⟨RL, vm_m119, rfl, rfl, ⟨vm_r44 _ (List.mem_of_getElem? (i := 5) rfl), vm_r44 _ (List.mem_of_getElem? (i := 6) rfl), vm_r44 _ (List.mem_of_getElem? (i := 7) rfl)⟩, fun _ => by decide +kernel, fun _ => by decide +kernel⟩
theorem vm_l302 : vm_cf 12 125 0 199 1000 := ⟨RL, vm_m199, rfl, rfl, ⟨vm_r44 _ (List.mem_of_getElem? (i := 9) rfl), vm_r44 _ (List.mem_of_getElem? (i := 10) rfl), vm_r44 _ (List.mem_of_getElem? (i := 11) rfl)⟩, fun _ => by decide +kernel, fun _ => by decide +kernel⟩
theorem vm_l303 : vm_cf 12 126 0 120 901 := ⟨RL, vm_m120, rfl, rfl, ⟨vm_r44 _ (List.mem_of_getElem? (i := 13) rfl), vm_r44 _ (List.mem_of_getElem? (i := 14) rfl), vm_r44 _ (List.mem_of_getElem? (i := 15) rfl)⟩, fun _ => by decide +kernel, fun _ => by decide +kernel⟩
theorem vm_l304 : vm_cf 12 129 0 201 1001 := ⟨RL, vm_m201, rfl, rfl, ⟨vm_r45 _ (List.mem_of_getElem? (i := 1) rfl), vm_r45 _ (List.mem_of_getElem? (i := 2) rfl), vm_r45 _ (List.mem_of_getElem? (i := 3) rfl)⟩, fun _ => by decide +kernel, fun _ => by decide +kernel⟩
set_option maxRecDepth 100000 in
def vm_cT : List (Nat × Nat × Nat × Nat × Nat) := [(0, 3, 5, 0, 0), (0, 13, 2, 54, 1), (0, 24, 0, 57, 500), (0, 31, 0, 62, 501), (0, 35, 0, 56, 500), (0, 39, 0, 59, 501), (0, 43, 0, 76, 701), (0, 49, 3, 126, 3), (0, 53, 0, 58, 501), (0, 56, 0, 55, 500), (0, 60, 0, 4, 0), (0, 63, 0, 60, 502), (0, 67, 0, 7, 2), (0, 70, 0, 8, 3), (0, 73, 0, 10, 1), (0, 76, 0, 9, 3), (0, 79, 1, 30, 2), (0, 84, 0, 13, 2), (0, 87, 0, 78, 702), (0, 90, 0, 80, 701), (0, 93, 1, 31, 3), (0, 97, 1, 203, 2), (0, 102, 0, 14, 0), (0, 105, 0, 15, 2), (0, 109, 0, 16, 2), (0, 112, 0, 11, 2), (0, 115, 0, 12, 2), (1, 3, 5, 0, 0), (1, 11, 2, 54, 1), (1, 27, 0, 61, 501), (1, 32, 0, 7, 2), (1, 36, 0, 60, 502), (1, 40, 0, 5, 0), (1, 44, 0, 80, 701), (1, 50, 0, 27, 103), (1, 54, 0, 59, 501), (1, 56, 1, 29, 2), (1, 59, 1, 31, 3), (1, 65, 0, 28, 102), (1, 68, 0, 62, 501), (2, 9, 1, 32, 1), (2, 15, 1, 203, 2), (2, 21, 1, 202, 2), (3, 3, 5, 0, 0), (3, 11, 2, 54, 1), (3, 27, 0, 5, 0), (3, 37, 1, 203, 2), (3, 45, 0, 57, 500), (3, 48, 0, 7, 2), (3, 51, 0, 58, 501), (3, 54, 0, 61, 501), (3, 57, 0, 36, 204), (3, 61, 0, 59, 501), (3, 64, 0, 37, 204), (3, 67, 0, 60, 502), (3, 71, 0, 80, 701), (3, 76, 1, 31, 3), (3, 82, 1, 30, 2), (4, 3, 5, 0, 0), (4, 13, 2, 54, 1), (4, 36, 0, 57, 500), (4, 39, 0, 61, 501), (4, 42, 0, 41, 304), (4, 46, 0, 55, 500), (4, 50, 0, 59, 501), (4, 54, 0, 42, 301), (4, 57, 0, 79, 702), (4, 63, 0, 60, 502), (4, 67, 0, 58, 501), (5, 3, 5, 0, 0), (5, 13, 2, 54, 1), (5, 22, 4, 70, 0), (5, 29, 2, 0, 1), (5, 39, 0, 4, 0), (5, 43, 0, 77, 700), (5, 47, 0, 71, 700), (5, 50, 0, 1, 0), (5, 55, 0, 55, 500), (5, 58, 0, 48, 400), (5, 61, 0, 52, 400), (5, 64, 0, 49, 401), (5, 68, 0, 73, 701), (5, 72, 0, 50, 401), (5, 75, 0, 59, 501), (5, 79, 0, 74, 701), (5, 82, 0, 3, 1), (5, 85, 0, 57, 500), (5, 86, 1, 53, 1), (5, 89, 0, 58, 501), (5, 92, 0, 51, 400), (6, 3, 5, 0, 0), (6, 9, 1, 202, 2), (6, 25, 0, 57, 500), (6, 28, 0, 55, 500), (6, 31, 0, 59, 501), (6, 35, 0, 58, 501), (7, 1, 5, 0, 0), (7, 7, 1, 202, 2), (7, 21, 2, 0, 1), (7, 28, 0, 65, 600), (7, 35, 0, 69, 601), (7, 39, 0, 2, 1), (7, 43, 1, 204, 2), (8, 3, 5, 0, 0), (8, 11, 2, 54, 1), (8, 33, 0, 57, 500), (8, 36, 0, 62, 501), (8, 40, 0, 56, 500), (8, 44, 0, 59, 501), (8, 48, 0, 58, 501), (8, 51, 3, 126, 3), (8, 55, 0, 55, 500), (8, 59, 0, 76, 701), (8, 63, 3, 125, 1), (8, 66, 0, 78, 702), (8, 70, 1, 204, 2), (8, 75, 0, 82, 701), (8, 78, 0, 79, 702), (8, 81, 0, 84, 702), (8, 85, 0, 61, 501), (8, 88, 0, 60, 502), (8, 92, 0, 86, 700), (9, 3, 5, 0, 0), (9, 11, 2, 54, 1), (9, 29, 0, 7, 2), (9, 33, 0, 81, 701), (9, 43, 0, 57, 500), (9, 46, 0, 58, 501), (9, 49, 0, 61, 501), (9, 55, 0, 90, 803), (9, 59, 0, 59, 501), (9, 61, 0, 91, 804), (9, 65, 1, 30, 2), (9, 70, 0, 60, 502), (9, 74, 0, 79, 702), (10, 1, 5, 0, 0), (10, 11, 2, 54, 1), (10, 23, 4, 70, 0), (10, 30, 2, 0, 1), (10, 42, 2, 63, 2), (10, 54, 2, 43, 1), (10, 63, 2, 33, 1), (10, 70, 2, 87, 1), (10, 77, 2, 38, 1), (10, 84, 2, 25, 1), (10, 91, 6, 0, 0), (10, 97, 7, 0, 0), (10, 101, 0, 58, 501), (10, 104, 0, 121, 900), (10, 108, 0, 57, 500), (10, 111, 1, 126, 3), (10, 115, 0, 56, 500), (10, 118, 0, 55, 500), (10, 121, 0, 47, 400), (10, 124, 0, 4, 0), (10, 127, 0, 76, 701), (10, 131, 1, 125, 1), (10, 134, 0, 78, 702), (10, 138, 0, 5, 0), (10, 141, 0, 80, 701), (10, 145, 0, 6, 1), (10, 148, 0, 7, 2), (10, 151, 0, 11, 2), (10, 155, 0, 67, 601), (10, 159, 0, 12, 2), (10, 163, 0, 14, 0), (10, 166, 0, 22, 0), (10, 169, 0, 123, 902), (10, 172, 0, 15, 2), (10, 175, 0, 16, 2), (10, 178, 0, 10, 1), (10, 181, 0, 17, 2), (10, 184, 0, 18, 3), (10, 187, 0, 19, 3), (10, 191, 0, 68, 601), (10, 195, 0, 64, 600), (10, 196, 0, 20, 1), (10, 199, 0, 34, 203), (10, 203, 0, 35, 201), (10, 206, 0, 88, 803), (10, 207, 0, 89, 801), (10, 210, 0, 39, 302), (10, 213, 0, 40, 301), (10, 214, 0, 81, 701), (10, 217, 0, 122, 904), (10, 221, 0, 83, 702), (10, 225, 0, 85, 703), (10, 229, 0, 26, 105), (10, 233, 0, 2, 1), (10, 236, 1, 124, 2), (10, 239, 0, 21, 1), (10, 242, 0, 24, 0), (10, 245, 0, 65, 600), (10, 246, 0, 66, 600), (10, 247, 0, 75, 700), (10, 250, 0, 23, 0), (10, 253, 0, 46, 400), (10, 256, 0, 44, 400), (10, 259, 0, 72, 701), (10, 261, 0, 45, 400), (11, 1, 5, 0, 0), (11, 61, 1, 131, 2), (11, 65, 1, 132, 4), (11, 69, 0, 133, 1000), (11, 86, 1, 128, 3), (11, 96, 0, 136, 1000), (11, 104, 1, 138, 1), (11, 111, 0, 139, 1002), (11, 115, 0, 137, 1001), (11, 118, 0, 140, 1000), (11, 122, 0, 141, 1000), (11, 125, 0, 142, 1000), (11, 128, 0, 143, 1000), (11, 131, 0, 144, 1000), (11, 134, 0, 146, 1000), (11, 137, 1, 130, 5), (11, 143, 0, 151, 1002), (11, 147, 0, 148, 1001), (11, 150, 1, 149, 1), (11, 155, 0, 153, 1001), (11, 159, 0, 150, 1001), (11, 162, 1, 157, 2), (11, 165, 1, 160, 2), (11, 168, 1, 158, 3), (11, 172, 1, 161, 3), (11, 176, 0, 165, 1000), (11, 179, 0, 162, 1003), (11, 185, 0, 163, 1001), (11, 189, 0, 164, 1001), (11, 193, 1, 168, 3), (11, 196, 1, 169, 3), (11, 199, 0, 159, 1001), (11, 202, 0, 172, 1003), (11, 206, 0, 178, 1001), (11, 210, 0, 177, 1003), (11, 215, 0, 176, 1001), (11, 219, 0, 179, 1002), (11, 222, 0, 152, 1002), (11, 225, 0, 181, 1003), (11, 228, 0, 182, 1002), (11, 231, 0, 185, 1001), (11, 234, 0, 184, 1002), (11, 237, 1, 129, 2), (11, 240, 0, 188, 1004), (11, 248, 1, 194, 3), (11, 262, 1, 196, 1), (11, 265, 0, 200, 1000), (12, 9, 2, 92, 0), (12, 12, 2, 127, 0), (12, 13, 0, 93, 901), (12, 17, 0, 134, 1001), (12, 18, 0, 94, 900), (12, 22, 0, 135, 1000), (12, 23, 0, 95, 900), (12, 26, 0, 145, 1000), (12, 27, 0, 96, 900), (12, 30, 0, 147, 1000), (12, 31, 0, 97, 902), (12, 35, 0, 154, 1002), (12, 36, 0, 98, 901), (12, 39, 0, 155, 1001), (12, 40, 0, 99, 902), (12, 43, 0, 156, 1002), (12, 44, 0, 100, 902), (12, 47, 0, 166, 1002), (12, 48, 0, 101, 901), (12, 51, 0, 167, 1001), (12, 52, 0, 102, 902), (12, 55, 0, 170, 1002), (12, 56, 0, 103, 902), (12, 59, 0, 171, 1002), (12, 60, 0, 104, 903), (12, 64, 0, 173, 1003), (12, 65, 0, 105, 900), (12, 68, 0, 174, 1000), (12, 69, 0, 106, 901), (12, 72, 0, 175, 1001), (12, 73, 0, 107, 903), (12, 76, 0, 180, 1003), (12, 77, 0, 108, 903), (12, 80, 0, 183, 1003), (12, 81, 0, 109, 903), (12, 84, 0, 186, 1003), (12, 85, 0, 110, 901), (12, 88, 0, 187, 1001), (12, 89, 0, 111, 903), (12, 92, 0, 189, 1003), (12, 93, 0, 112, 901), (12, 96, 0, 190, 1001), (12, 97, 0, 113, 900), (12, 100, 0, 191, 1000), (12, 101, 0, 114, 901), (12, 104, 0, 192, 1001), (12, 105, 0, 115, 903), (12, 108, 0, 193, 1003), (12, 109, 0, 116, 904), (12, 113, 0, 195, 1004), (12, 114, 0, 117, 903), (12, 117, 0, 197, 1003), (12, 118, 0, 118, 900), (12, 121, 0, 198, 1000), (12, 122, 0, 119, 900), (12, 125, 0, 199, 1000), (12, 126, 0, 120, 901), (12, 129, 0, 201, 1001)]
theorem vm_cT_0 : ∀ q ∈ ([(0, 3, 5, 0, 0), (0, 13, 2, 54, 1), (0, 24, 0, 57, 500), (0, 31, 0, 62, 501), (0, 35, 0, 56, 500), (0, 39, 0, 59, 501), (0, 43, 0, 76, 701), (0, 49, 3, 126, 3), (0, 53, 0, 58, 501), (0, 56, 0, 55, 500), (0, 60, 0, 4, 0), (0, 63, 0, 60, 502), (0, 67, 0, 7, 2), (0, 70, 0, 8, 3), (0, 73, 0, 10, 1), (0, 76, 0, 9, 3)] : List (Nat × Nat × Nat × Nat × Nat)), vm_cf q.1 q.2.1 q.2.2.1 q.2.2.2.1 q.2.2.2.2 := List.forall_mem_cons.mpr ⟨vm_l0, List.forall_mem_cons.mpr ⟨vm_l1, List.forall_mem_cons.mpr ⟨vm_l2, List.forall_mem_cons.mpr ⟨vm_l3, List.forall_mem_cons.mpr ⟨vm_l4, List.forall_mem_cons.mpr ⟨vm_l5, List.forall_mem_cons.mpr ⟨vm_l6, List.forall_mem_cons.mpr ⟨vm_l7, List.forall_mem_cons.mpr ⟨vm_l8, List.forall_mem_cons.mpr ⟨vm_l9, List.forall_mem_cons.mpr ⟨vm_l10, List.forall_mem_cons.mpr ⟨vm_l11, List.forall_mem_cons.mpr ⟨vm_l12, List.forall_mem_cons.mpr ⟨vm_l13, List.forall_mem_cons.mpr ⟨vm_l14, List.forall_mem_cons.mpr ⟨vm_l15, fun _ h => absurd h List.not_mem_nil⟩⟩⟩⟩⟩⟩⟩⟩⟩⟩⟩⟩⟩⟩⟩⟩
theorem vm_cT_1 : ∀ q ∈ ([(0, 79, 1, 30, 2), (0, 84, 0, 13, 2), (0, 87, 0, 78, 702), (0, 90, 0, 80, 701), (0, 93, 1, 31, 3), (0, 97, 1, 203, 2), (0, 102, 0, 14, 0), (0, 105, 0, 15, 2), (0, 109, 0, 16, 2), (0, 112, 0, 11, 2), (0, 115, 0, 12, 2), (1, 3, 5, 0, 0), (1, 11, 2, 54, 1), (1, 27, 0, 61, 501), (1, 32, 0, 7, 2), (1, 36, 0, 60, 502)] : List (Nat × Nat × Nat × Nat × Nat)), vm_cf q.1 q.2.1 q.2.2.1 q.2.2.2.1 q.2.2.2.2 := List.forall_mem_cons.mpr ⟨vm_l16, List.forall_mem_cons.mpr ⟨vm_l17, List.forall_mem_cons.mpr ⟨vm_l18, List.forall_mem_cons.mpr ⟨vm_l19, List.forall_mem_cons.mpr ⟨vm_l20, List.forall_mem_cons.mpr ⟨vm_l21, List.forall_mem_cons.mpr ⟨vm_l22, List.forall_mem_cons.mpr ⟨vm_l23, List.forall_mem_cons.mpr ⟨vm_l24, List.forall_mem_cons.mpr ⟨vm_l25, List.forall_mem_cons.mpr ⟨vm_l26, List.forall_mem_cons.mpr ⟨vm_l27, List.forall_mem_cons.mpr ⟨vm_l28, List.forall_mem_cons.mpr ⟨vm_l29, List.forall_mem_cons.mpr ⟨vm_l30, List.forall_mem_cons.mpr ⟨vm_l31, fun _ h => absurd h List.not_mem_nil⟩⟩⟩⟩⟩⟩⟩⟩⟩⟩⟩⟩⟩⟩⟩⟩
theorem vm_cT_2 : ∀ q ∈ ([(1, 40, 0, 5, 0), (1, 44, 0, 80, 701), (1, 50, 0, 27, 103), (1, 54, 0, 59, 501), (1, 56, 1, 29, 2), (1, 59, 1, 31, 3), (1, 65, 0, 28, 102), (1, 68, 0, 62, 501), (2, 9, 1, 32, 1), (2, 15, 1, 203, 2), (2, 21, 1, 202, 2), (3, 3, 5, 0, 0), (3, 11, 2, 54, 1), (3, 27, 0, 5, 0), (3, 37, 1, 203, 2), (3, 45, 0, 57, 500)] : List (Nat × Nat × Nat × Nat × Nat)), vm_cf q.1 q.2.1 q.2.2.1 q.2.2.2.1 q.2.2.2.2 := List.forall_mem_cons.mpr ⟨vm_l32, List.forall_mem_cons.mpr ⟨vm_l33, List.forall_mem_cons.mpr ⟨vm_l34, List.forall_mem_cons.mpr ⟨vm_l35, List.forall_mem_cons.mpr ⟨vm_l36, List.forall_mem_cons.mpr ⟨vm_l37, List.forall_mem_cons.mpr ⟨vm_l38, List.forall_mem_cons.mpr ⟨vm_l39, List.forall_mem_cons.mpr ⟨vm_l40, List.forall_mem_cons.mpr ⟨vm_l41, List.forall_mem_cons.mpr ⟨vm_l42, List.forall_mem_cons.mpr ⟨vm_l43, List.forall_mem_cons.mpr ⟨vm_l44, List.forall_mem_cons.mpr ⟨vm_l45, List.forall_mem_cons.mpr ⟨vm_l46, List.forall_mem_cons.mpr ⟨vm_l47, fun _ h => absurd h List.not_mem_nil⟩⟩⟩⟩⟩⟩⟩⟩⟩⟩⟩⟩⟩⟩⟩⟩
theorem vm_cT_3 : ∀ q ∈ ([(3, 48, 0, 7, 2), (3, 51, 0, 58, 501), (3, 54, 0, 61, 501), (3, 57, 0, 36, 204), (3, 61, 0, 59, 501), (3, 64, 0, 37, 204), (3, 67, 0, 60, 502), (3, 71, 0, 80, 701), (3, 76, 1, 31, 3), (3, 82, 1, 30, 2), (4, 3, 5, 0, 0), (4, 13, 2, 54, 1), (4, 36, 0, 57, 500), (4, 39, 0, 61, 501), (4, 42, 0, 41, 304), (4, 46, 0, 55, 500)] : List (Nat × Nat × Nat × Nat × Nat)), vm_cf q.1 q.2.1 q.2.2.1 q.2.2.2.1 q.2.2.2.2 := List.forall_mem_cons.mpr ⟨vm_l48, List.forall_mem_cons.mpr ⟨vm_l49, List.forall_mem_cons.mpr ⟨vm_l50, List.forall_mem_cons.mpr ⟨vm_l51, List.forall_mem_cons.mpr ⟨vm_l52, List.forall_mem_cons.mpr ⟨vm_l53, List.forall_mem_cons.mpr ⟨vm_l54, List.forall_mem_cons.mpr ⟨vm_l55, List.forall_mem_cons.mpr ⟨vm_l56, List.forall_mem_cons.mpr ⟨vm_l57, List.forall_mem_cons.mpr ⟨vm_l58, List.forall_mem_cons.mpr ⟨vm_l59, List.forall_mem_cons.mpr ⟨vm_l60, List.forall_mem_cons.mpr ⟨vm_l61, List.forall_mem_cons.mpr ⟨vm_l62, List.forall_mem_cons.mpr ⟨vm_l63, fun _ h => absurd h List.not_mem_nil⟩⟩⟩⟩⟩⟩⟩⟩⟩⟩⟩⟩⟩⟩⟩⟩
theorem vm_cT_4 : ∀ q ∈ ([(4, 50, 0, 59, 501), (4, 54, 0, 42, 301), (4, 57, 0, 79, 702), (4, 63, 0, 60, 502), (4, 67, 0, 58, 501), (5, 3, 5, 0, 0), (5, 13, 2, 54, 1), (5, 22, 4, 70, 0), (5, 29, 2, 0, 1), (5, 39, 0, 4, 0), (5, 43, 0, 77, 700), (5, 47, 0, 71, 700), (5, 50, 0, 1, 0), (5, 55, 0, 55, 500), (5, 58, 0, 48, 400), (5, 61, 0, 52, 400)] : List (Nat × Nat × Nat × Nat × Nat)), vm_cf q.1 q.2.1 q.2.2.1 q.2.2.2.1 q.2.2.2.2 := List.forall_mem_cons.mpr ⟨vm_l64, List.forall_mem_cons.mpr ⟨vm_l65, List.forall_mem_cons.mpr ⟨vm_l66, List.forall_mem_cons.mpr ⟨vm_l67, List.forall_mem_cons.mpr ⟨vm_l68, List.forall_mem_cons.mpr ⟨vm_l69, List.forall_mem_cons.mpr ⟨vm_l70, List.forall_mem_cons.mpr ⟨vm_l71, List.forall_mem_cons.mpr ⟨vm_l72, List.forall_mem_cons.mpr ⟨vm_l73, List.forall_mem_cons.mpr ⟨vm_l74, List.forall_mem_cons.mpr ⟨vm_l75, List.forall_mem_cons.mpr ⟨vm_l76, List.forall_mem_cons.mpr ⟨vm_l77, List.forall_mem_cons.mpr ⟨vm_l78, List.forall_mem_cons.mpr ⟨vm_l79, fun _ h => absurd h List.not_mem_nil⟩⟩⟩⟩⟩⟩⟩⟩⟩⟩⟩⟩⟩⟩⟩⟩
theorem vm_cT_5 : ∀ q ∈ ([(5, 64, 0, 49, 401), (5, 68, 0, 73, 701), (5, 72, 0, 50, 401), (5, 75, 0, 59, 501), (5, 79, 0, 74, 701), (5, 82, 0, 3, 1), (5, 85, 0, 57, 500), (5, 86, 1, 53, 1), (5, 89, 0, 58, 501), (5, 92, 0, 51, 400), (6, 3, 5, 0, 0), (6, 9, 1, 202, 2), (6, 25, 0, 57, 500), (6, 28, 0, 55, 500), (6, 31, 0, 59, 501), (6, 35, 0, 58, 501)] : List (Nat × Nat × Nat × Nat × Nat)), vm_cf q.1 q.2.1 q.2.2.1 q.2.2.2.1 q.2.2.2.2 := List.forall_mem_cons.mpr ⟨vm_l80, List.forall_mem_cons.mpr ⟨vm_l81, List.forall_mem_cons.mpr ⟨vm_l82, List.forall_mem_cons.mpr ⟨vm_l83, List.forall_mem_cons.mpr ⟨vm_l84, List.forall_mem_cons.mpr ⟨vm_l85, List.forall_mem_cons.mpr ⟨vm_l86, List.forall_mem_cons.mpr ⟨vm_l87, List.forall_mem_cons.mpr ⟨vm_l88, List.forall_mem_cons.mpr ⟨vm_l89, List.forall_mem_cons.mpr ⟨vm_l90, List.forall_mem_cons.mpr ⟨vm_l91, List.forall_mem_cons.mpr ⟨vm_l92, List.forall_mem_cons.mpr ⟨vm_l93, List.forall_mem_cons.mpr ⟨vm_l94, List.forall_mem_cons.mpr ⟨vm_l95, fun _ h => absurd h List.not_mem_nil⟩⟩⟩⟩⟩⟩⟩⟩⟩⟩⟩⟩⟩⟩⟩⟩
theorem vm_cT_6 : ∀ q ∈ ([(7, 1, 5, 0, 0), (7, 7, 1, 202, 2), (7, 21, 2, 0, 1), (7, 28, 0, 65, 600), (7, 35, 0, 69, 601), (7, 39, 0, 2, 1), (7, 43, 1, 204, 2), (8, 3, 5, 0, 0), (8, 11, 2, 54, 1), (8, 33, 0, 57, 500), (8, 36, 0, 62, 501), (8, 40, 0, 56, 500), (8, 44, 0, 59, 501), (8, 48, 0, 58, 501), (8, 51, 3, 126, 3), (8, 55, 0, 55, 500)] : List (Nat × Nat × Nat × Nat × Nat)), vm_cf q.1 q.2.1 q.2.2.1 q.2.2.2.1 q.2.2.2.2 := List.forall_mem_cons.mpr ⟨vm_l96, List.forall_mem_cons.mpr ⟨vm_l97, List.forall_mem_cons.mpr ⟨vm_l98, List.forall_mem_cons.mpr ⟨vm_l99, List.forall_mem_cons.mpr ⟨vm_l100, List.forall_mem_cons.mpr ⟨vm_l101, List.forall_mem_cons.mpr ⟨vm_l102, List.forall_mem_cons.mpr ⟨vm_l103, List.forall_mem_cons.mpr ⟨vm_l104, List.forall_mem_cons.mpr ⟨vm_l105, List.forall_mem_cons.mpr ⟨vm_l106, List.forall_mem_cons.mpr ⟨vm_l107, List.forall_mem_cons.mpr ⟨vm_l108, List.forall_mem_cons.mpr ⟨vm_l109, List.forall_mem_cons.mpr ⟨vm_l110, List.forall_mem_cons.mpr ⟨vm_l111, fun _ h => absurd h List.not_mem_nil⟩⟩⟩⟩⟩⟩⟩⟩⟩⟩⟩⟩⟩⟩⟩⟩
theorem vm_cT_7 : ∀ q ∈ ([(8, 59, 0, 76, 701), (8, 63, 3, 125, 1), (8, 66, 0, 78, 702), (8, 70, 1, 204, 2), (8, 75, 0, 82, 701), (8, 78, 0, 79, 702), (8, 81, 0, 84, 702), (8, 85, 0, 61, 501), (8, 88, 0, 60, 502), (8, 92, 0, 86, 700), (9, 3, 5, 0, 0), (9, 11, 2, 54, 1), (9, 29, 0, 7, 2), (9, 33, 0, 81, 701), (9, 43, 0, 57, 500), (9, 46, 0, 58, 501)] : List (Nat × Nat × Nat × Nat × Nat)), vm_cf q.1 q.2.1 q.2.2.1 q.2.2.2.1 q.2.2.2.2 := List.forall_mem_cons.mpr ⟨vm_l112, List.forall_mem_cons.mpr ⟨vm_l113, List.forall_mem_cons.mpr ⟨vm_l114, List.forall_mem_cons.mpr ⟨vm_l115, List.forall_mem_cons.mpr ⟨vm_l116, List.forall_mem_cons.mpr ⟨vm_l117, List.forall_mem_cons.mpr ⟨vm_l118, List.forall_mem_cons.mpr ⟨vm_l119, List.forall_mem_cons.mpr ⟨vm_l120, List.forall_mem_cons.mpr ⟨vm_l121, List.forall_mem_cons.mpr ⟨vm_l122, List.forall_mem_cons.mpr ⟨vm_l123, List.forall_mem_cons.mpr ⟨vm_l124, List.forall_mem_cons.mpr ⟨vm_l125, List.forall_mem_cons.mpr ⟨vm_l126, List.forall_mem_cons.mpr ⟨vm_l127, fun _ h => absurd h List.not_mem_nil⟩⟩⟩⟩⟩⟩⟩⟩⟩⟩⟩⟩⟩⟩⟩⟩
theorem vm_cT_8 : ∀ q ∈ ([(9, 49, 0, 61, 501), (9, 55, 0, 90, 803), (9, 59, 0, 59, 501), (9, 61, 0, 91, 804), (9, 65, 1, 30, 2), (9, 70, 0, 60, 502), (9, 74, 0, 79, 702), (10, 1, 5, 0, 0), (10, 11, 2, 54, 1), (10, 23, 4, 70, 0), (10, 30, 2, 0, 1), (10, 42, 2, 63, 2), (10, 54, 2, 43, 1), (10, 63, 2, 33, 1), (10, 70, 2, 87, 1), (10, 77, 2, 38, 1)] : List (Nat × Nat × Nat × Nat × Nat)), vm_cf q.1 q.2.1 q.2.2.1 q.2.2.2.1 q.2.2.2.2 := List.forall_mem_cons.mpr ⟨vm_l128, List.forall_mem_cons.mpr ⟨vm_l129, List.forall_mem_cons.mpr ⟨vm_l130, List.forall_mem_cons.mpr ⟨vm_l131, List.forall_mem_cons.mpr ⟨vm_l132, List.forall_mem_cons.mpr ⟨vm_l133, List.forall_mem_cons.mpr ⟨vm_l134, List.forall_mem_cons.mpr ⟨vm_l135, List.forall_mem_cons.mpr ⟨vm_l136, List.forall_mem_cons.mpr ⟨vm_l137, List.forall_mem_cons.mpr ⟨vm_l138, List.forall_mem_cons.mpr ⟨vm_l139, List.forall_mem_cons.mpr ⟨vm_l140, List.forall_mem_cons.mpr ⟨vm_l141, List.forall_mem_cons.mpr ⟨vm_l142, List.forall_mem_cons.mpr ⟨vm_l143, fun _ h => absurd h List.not_mem_nil⟩⟩⟩⟩⟩⟩⟩⟩⟩⟩⟩⟩⟩⟩⟩⟩
theorem vm_cT_9 : ∀ q ∈ ([(10, 84, 2, 25, 1), (10, 91, 6, 0, 0), (10, 97, 7, 0, 0), (10, 101, 0, 58, 501), (10, 104, 0, 121, 900), (10, 108, 0, 57, 500), (10, 111, 1, 126, 3), (10, 115, 0, 56, 500), (10, 118, 0, 55, 500), (10, 121, 0, 47, 400), (10, 124, 0, 4, 0), (10, 127, 0, 76, 701), (10, 131, 1, 125, 1), (10, 134, 0, 78, 702), (10, 138, 0, 5, 0), (10, 141, 0, 80, 701)] : List (Nat × Nat × Nat × Nat × Nat)), vm_cf q.1 q.2.1 q.2.2.1 q.2.2.2.1 q.2.2.2.2 := List.forall_mem_cons.mpr ⟨vm_l144, List.forall_mem_cons.mpr ⟨vm_l145, List.forall_mem_cons.mpr ⟨vm_l146, List.forall_mem_cons.mpr ⟨vm_l147, List.forall_mem_cons.mpr ⟨vm_l148, List.forall_mem_cons.mpr ⟨vm_l149, List.forall_mem_cons.mpr ⟨vm_l150, List.forall_mem_cons.mpr ⟨vm_l151, List.forall_mem_cons.mpr ⟨vm_l152, List.forall_mem_cons.mpr ⟨vm_l153, List.forall_mem_cons.mpr ⟨vm_l154, List.forall_mem_cons.mpr ⟨vm_l155, List.forall_mem_cons.mpr ⟨vm_l156, List.forall_mem_cons.mpr ⟨vm_l157, List.forall_mem_cons.mpr ⟨vm_l158, List.forall_mem_cons.mpr ⟨vm_l159, fun _ h => absurd h List.not_mem_nil⟩⟩⟩⟩⟩⟩⟩⟩⟩⟩⟩⟩⟩⟩⟩⟩
theorem vm_cT_10 : ∀ q ∈ ([(10, 145, 0, 6, 1), (10, 148, 0, 7, 2), (10, 151, 0, 11, 2), (10, 155, 0, 67, 601), (10, 159, 0, 12, 2), (10, 163, 0, 14, 0), (10, 166, 0, 22, 0), (10, 169, 0, 123, 902), (10, 172, 0, 15, 2), (10, 175, 0, 16, 2), (10, 178, 0, 10, 1), (10, 181, 0, 17, 2), (10, 184, 0, 18, 3), (10, 187, 0, 19, 3), (10, 191, 0, 68, 601), (10, 195, 0, 64, 600)] : List (Nat × Nat × Nat × Nat × Nat)), vm_cf q.1 q.2.1 q.2.2.1 q.2.2.2.1 q.2.2.2.2 := List.forall_mem_cons.mpr ⟨vm_l160, List.forall_mem_cons.mpr ⟨vm_l161, List.forall_mem_cons.mpr ⟨vm_l162, List.forall_mem_cons.mpr ⟨vm_l163, List.forall_mem_cons.mpr ⟨vm_l164, List.forall_mem_cons.mpr ⟨vm_l165, List.forall_mem_cons.mpr ⟨vm_l166, List.forall_mem_cons.mpr ⟨vm_l167, List.forall_mem_cons.mpr ⟨vm_l168, List.forall_mem_cons.mpr ⟨vm_l169, List.forall_mem_cons.mpr ⟨vm_l170, List.forall_mem_cons.mpr ⟨vm_l171, List.forall_mem_cons.mpr ⟨vm_l172, List.forall_mem_cons.mpr ⟨vm_l173, List.forall_mem_cons.mpr ⟨vm_l174, List.forall_mem_cons.mpr ⟨vm_l175, fun _ h => absurd h List.not_mem_nil⟩⟩⟩⟩⟩⟩⟩⟩⟩⟩⟩⟩⟩⟩⟩⟩
theorem vm_cT_11 : ∀ q ∈ ([(10, 196, 0, 20, 1), (10, 199, 0, 34, 203), (10, 203, 0, 35, 201), (10, 206, 0, 88, 803), (10, 207, 0, 89, 801), (10, 210, 0, 39, 302), (10, 213, 0, 40, 301), (10, 214, 0, 81, 701), (10, 217, 0, 122, 904), (10, 221, 0, 83, 702), (10, 225, 0, 85, 703), (10, 229, 0, 26, 105), (10, 233, 0, 2, 1), (10, 236, 1, 124, 2), (10, 239, 0, 21, 1), (10, 242, 0, 24, 0)] : List (Nat × Nat × Nat × Nat × Nat)), vm_cf q.1 q.2.1 q.2.2.1 q.2.2.2.1 q.2.2.2.2 := List.forall_mem_cons.mpr ⟨vm_l176, List.forall_mem_cons.mpr ⟨vm_l177, List.forall_mem_cons.mpr ⟨vm_l178, List.forall_mem_cons.mpr ⟨vm_l179, List.forall_mem_cons.mpr ⟨vm_l180, List.forall_mem_cons.mpr ⟨vm_l181, List.forall_mem_cons.mpr ⟨vm_l182, List.forall_mem_cons.mpr ⟨vm_l183, List.forall_mem_cons.mpr ⟨vm_l184, List.forall_mem_cons.mpr ⟨vm_l185, List.forall_mem_cons.mpr ⟨vm_l186, List.forall_mem_cons.mpr ⟨vm_l187, List.forall_mem_cons.mpr ⟨vm_l188, List.forall_mem_cons.mpr ⟨vm_l189, List.forall_mem_cons.mpr ⟨vm_l190, List.forall_mem_cons.mpr ⟨vm_l191, fun _ h => absurd h List.not_mem_nil⟩⟩⟩⟩⟩⟩⟩⟩⟩⟩⟩⟩⟩⟩⟩⟩
theorem vm_cT_12 : ∀ q ∈ ([(10, 245, 0, 65, 600), (10, 246, 0, 66, 600), (10, 247, 0, 75, 700), (10, 250, 0, 23, 0), (10, 253, 0, 46, 400), (10, 256, 0, 44, 400), (10, 259, 0, 72, 701), (10, 261, 0, 45, 400), (11, 1, 5, 0, 0), (11, 61, 1, 131, 2), (11, 65, 1, 132, 4), (11, 69, 0, 133, 1000), (11, 86, 1, 128, 3), (11, 96, 0, 136, 1000), (11, 104, 1, 138, 1), (11, 111, 0, 139, 1002)] : List (Nat × Nat × Nat × Nat × Nat)), vm_cf q.1 q.2.1 q.2.2.1 q.2.2.2.1 q.2.2.2.2 := List.forall_mem_cons.mpr ⟨vm_l192, List.forall_mem_cons.mpr ⟨vm_l193, List.forall_mem_cons.mpr ⟨vm_l194, List.forall_mem_cons.mpr ⟨vm_l195, List.forall_mem_cons.mpr ⟨vm_l196, List.forall_mem_cons.mpr ⟨vm_l197, List.forall_mem_cons.mpr ⟨vm_l198, List.forall_mem_cons.mpr ⟨vm_l199, List.forall_mem_cons.mpr ⟨vm_l200, List.forall_mem_cons.mpr ⟨vm_l201, List.forall_mem_cons.mpr ⟨vm_l202, List.forall_mem_cons.mpr ⟨vm_l203, List.forall_mem_cons.mpr ⟨vm_l204, List.forall_mem_cons.mpr ⟨vm_l205, List.forall_mem_cons.mpr ⟨vm_l206, List.forall_mem_cons.mpr ⟨vm_l207, fun _ h => absurd h List.not_mem_nil⟩⟩⟩⟩⟩⟩⟩⟩⟩⟩⟩⟩⟩⟩⟩⟩
theorem vm_cT_13 : ∀ q ∈ ([(11, 115, 0, 137, 1001), (11, 118, 0, 140, 1000), (11, 122, 0, 141, 1000), (11, 125, 0, 142, 1000), (11, 128, 0, 143, 1000), (11, 131, 0, 144, 1000), (11, 134, 0, 146, 1000), (11, 137, 1, 130, 5), (11, 143, 0, 151, 1002), (11, 147, 0, 148, 1001), (11, 150, 1, 149, 1), (11, 155, 0, 153, 1001), (11, 159, 0, 150, 1001), (11, 162, 1, 157, 2), (11, 165, 1, 160, 2), (11, 168, 1, 158, 3)] : List (Nat × Nat × Nat × Nat × Nat)), vm_cf q.1 q.2.1 q.2.2.1 q.2.2.2.1 q.2.2.2.2 := List.forall_mem_cons.mpr ⟨vm_l208, List.forall_mem_cons.mpr ⟨vm_l209, List.forall_mem_cons.mpr ⟨vm_l210, List.forall_mem_cons.mpr ⟨vm_l211, List.forall_mem_cons.mpr ⟨vm_l212, List.forall_mem_cons.mpr ⟨vm_l213, List.forall_mem_cons.mpr ⟨vm_l214, List.forall_mem_cons.mpr ⟨vm_l215, List.forall_mem_cons.mpr ⟨vm_l216, List.forall_mem_cons.mpr ⟨vm_l217, List.forall_mem_cons.mpr ⟨vm_l218, List.forall_mem_cons.mpr ⟨vm_l219, List.forall_mem_cons.mpr ⟨vm_l220, List.forall_mem_cons.mpr ⟨vm_l221, List.forall_mem_cons.mpr ⟨vm_l222, List.forall_mem_cons.mpr ⟨vm_l223, fun _ h => absurd h List.not_mem_nil⟩⟩⟩⟩⟩⟩⟩⟩⟩⟩⟩⟩⟩⟩⟩⟩
theorem vm_cT_14 : ∀ q ∈ ([(11, 172, 1, 161, 3), (11, 176, 0, 165, 1000), (11, 179, 0, 162, 1003), (11, 185, 0, 163, 1001), (11, 189, 0, 164, 1001), (11, 193, 1, 168, 3), (11, 196, 1, 169, 3), (11, 199, 0, 159, 1001), (11, 202, 0, 172, 1003), (11, 206, 0, 178, 1001), (11, 210, 0, 177, 1003), (11, 215, 0, 176, 1001), (11, 219, 0, 179, 1002), (11, 222, 0, 152, 1002), (11, 225, 0, 181, 1003), (11, 228, 0, 182, 1002)] : List (Nat × Nat × Nat × Nat × Nat)), vm_cf q.1 q.2.1 q.2.2.1 q.2.2.2.1 q.2.2.2.2 := List.forall_mem_cons.mpr ⟨vm_l224, List.forall_mem_cons.mpr ⟨vm_l225, List.forall_mem_cons.mpr ⟨vm_l226, List.forall_mem_cons.mpr ⟨vm_l227, List.forall_mem_cons.mpr ⟨vm_l228, List.forall_mem_cons.mpr ⟨vm_l229, List.forall_mem_cons.mpr ⟨vm_l230, List.forall_mem_cons.mpr ⟨vm_l231, List.forall_mem_cons.mpr ⟨vm_l232, List.forall_mem_cons.mpr ⟨vm_l233, List.forall_mem_cons.mpr ⟨vm_l234, List.forall_mem_cons.mpr ⟨vm_l235, List.forall_mem_cons.mpr ⟨vm_l236, List.forall_mem_cons.mpr ⟨vm_l237, List.forall_mem_cons.mpr ⟨vm_l238, List.forall_mem_cons.mpr ⟨vm_l239, fun _ h => absurd h List.not_mem_nil⟩⟩⟩⟩⟩⟩⟩⟩⟩⟩⟩⟩⟩⟩⟩⟩
theorem vm_cT_15 : ∀ q ∈ ([(11, 231, 0, 185, 1001), (11, 234, 0, 184, 1002), (11, 237, 1, 129, 2), (11, 240, 0, 188, 1004), (11, 248, 1, 194, 3), (11, 262, 1, 196, 1), (11, 265, 0, 200, 1000), (12, 9, 2, 92, 0), (12, 12, 2, 127, 0), (12, 13, 0, 93, 901), (12, 17, 0, 134, 1001), (12, 18, 0, 94, 900), (12, 22, 0, 135, 1000), (12, 23, 0, 95, 900), (12, 26, 0, 145, 1000), (12, 27, 0, 96, 900)] : List (Nat × Nat × Nat × Nat × Nat)), vm_cf q.1 q.2.1 q.2.2.1 q.2.2.2.1 q.2.2.2.2 := List.forall_mem_cons.mpr ⟨vm_l240, List.forall_mem_cons.mpr ⟨vm_l241, List.forall_mem_cons.mpr ⟨vm_l242, List.forall_mem_cons.mpr ⟨vm_l243, List.forall_mem_cons.mpr ⟨vm_l244, List.forall_mem_cons.mpr ⟨vm_l245, List.forall_mem_cons.mpr ⟨vm_l246, List.forall_mem_cons.mpr ⟨vm_l247, List.forall_mem_cons.mpr ⟨vm_l248, List.forall_mem_cons.mpr ⟨vm_l249, List.forall_mem_cons.mpr ⟨vm_l250, List.forall_mem_cons.mpr ⟨vm_l251, List.forall_mem_cons.mpr ⟨vm_l252, List.forall_mem_cons.mpr ⟨vm_l253, List.forall_mem_cons.mpr ⟨vm_l254, List.forall_mem_cons.mpr ⟨vm_l255, fun _ h => absurd h List.not_mem_nil⟩⟩⟩⟩⟩⟩⟩⟩⟩⟩⟩⟩⟩⟩⟩⟩
theorem vm_cT_16 : ∀ q ∈ ([(12, 30, 0, 147, 1000), (12, 31, 0, 97, 902), (12, 35, 0, 154, 1002), (12, 36, 0, 98, 901), (12, 39, 0, 155, 1001), (12, 40, 0, 99, 902), (12, 43, 0, 156, 1002), (12, 44, 0, 100, 902), (12, 47, 0, 166, 1002), (12, 48, 0, 101, 901), (12, 51, 0, 167, 1001), (12, 52, 0, 102, 902), (12, 55, 0, 170, 1002), (12, 56, 0, 103, 902), (12, 59, 0, 171, 1002), (12, 60, 0, 104, 903)] : List (Nat × Nat × Nat × Nat × Nat)), vm_cf q.1 q.2.1 q.2.2.1 q.2.2.2.1 q.2.2.2.2 := List.forall_mem_cons.mpr ⟨vm_l256, List.forall_mem_cons.mpr ⟨vm_l257, List.forall_mem_cons.mpr ⟨vm_l258, List.forall_mem_cons.mpr ⟨vm_l259, List.forall_mem_cons.mpr ⟨vm_l260, List.forall_mem_cons.mpr ⟨vm_l261, List.forall_mem_cons.mpr ⟨vm_l262, List.forall_mem_cons.mpr ⟨vm_l263, List.forall_mem_cons.mpr ⟨vm_l264, List.forall_mem_cons.mpr ⟨vm_l265, List.forall_mem_cons.mpr ⟨vm_l266, List.forall_mem_cons.mpr ⟨vm_l267, List.forall_mem_cons.mpr ⟨vm_l268, List.forall_mem_cons.mpr ⟨vm_l269, List.forall_mem_cons.mpr ⟨vm_l270, List.forall_mem_cons.mpr ⟨vm_l271, fun _ h => absurd h List.not_mem_nil⟩⟩⟩⟩⟩⟩⟩⟩⟩⟩⟩⟩⟩⟩⟩⟩
theorem vm_cT_17 : ∀ q ∈ ([(12, 64, 0, 173, 1003), (12, 65, 0, 105, 900), (12, 68, 0, 174, 1000), (12, 69, 0, 106, 901), (12, 72, 0, 175, 1001), (12, 73, 0, 107, 903), (12, 76, 0, 180, 1003), (12, 77, 0, 108, 903), (12, 80, 0, 183, 1003), (12, 81, 0, 109, 903), (12, 84, 0, 186, 1003), (12, 85, 0, 110, 901), (12, 88, 0, 187, 1001), (12, 89, 0, 111, 903), (12, 92, 0, 189, 1003), (12, 93, 0, 112, 901)] : List (Nat × Nat × Nat × Nat × Nat)), vm_cf q.1 q.2.1 q.2.2.1 q.2.2.2.1 q.2.2.2.2 := List.forall_mem_cons.mpr ⟨vm_l272, List.forall_mem_cons.mpr ⟨vm_l273, List.forall_mem_cons.mpr ⟨vm_l274, List.forall_mem_cons.mpr ⟨vm_l275, List.forall_mem_cons.mpr ⟨vm_l276, List.forall_mem_cons.mpr ⟨vm_l277, List.forall_mem_cons.mpr ⟨vm_l278, List.forall_mem_cons.mpr ⟨vm_l279, List.forall_mem_cons.mpr ⟨vm_l280, List.forall_mem_cons.mpr ⟨vm_l281, List.forall_mem_cons.mpr ⟨vm_l282, List.forall_mem_cons.mpr ⟨vm_l283, List.forall_mem_cons.mpr ⟨vm_l284, List.forall_mem_cons.mpr ⟨vm_l285, List.forall_mem_cons.mpr ⟨vm_l286, List.forall_mem_cons.mpr ⟨vm_l287, fun _ h => absurd h List.not_mem_nil⟩⟩⟩⟩⟩⟩⟩⟩⟩⟩⟩⟩⟩⟩⟩⟩
theorem vm_cT_18 : ∀ q ∈ ([(12, 96, 0, 190, 1001), (12, 97, 0, 113, 900), (12, 100, 0, 191, 1000), (12, 101, 0, 114, 901), (12, 104, 0, 192, 1001), (12, 105, 0, 115, 903), (12, 108, 0, 193, 1003), (12, 109, 0, 116, 904), (12, 113, 0, 195, 1004), (12, 114, 0, 117, 903), (12, 117, 0, 197, 1003), (12, 118, 0, 118, 900), (12, 121, 0, 198, 1000), (12, 122, 0, 119, 900), (12, 125, 0, 199, 1000), (12, 126, 0, 120, 901)] : List (Nat × Nat × Nat × Nat × Nat)), vm_cf q.1 q.2.1 q.2.2.1 q.2.2.2.1 q.2.2.2.2 := List.forall_mem_cons.mpr ⟨vm_l288, List.forall_mem_cons.mpr ⟨vm_l289, List.forall_mem_cons.mpr ⟨vm_l290, List.forall_mem_cons.mpr ⟨vm_l291, List.forall_mem_cons.mpr ⟨vm_l292, List.forall_mem_cons.mpr ⟨vm_l293, List.forall_mem_cons.mpr ⟨vm_l294, List.forall_mem_cons.mpr ⟨vm_l295, List.forall_mem_cons.mpr ⟨vm_l296, List.forall_mem_cons.mpr ⟨vm_l297, List.forall_mem_cons.mpr ⟨vm_l298, List.forall_mem_cons.mpr ⟨vm_l299, List.forall_mem_cons.mpr ⟨vm_l300, List.forall_mem_cons.mpr ⟨vm_l301, List.forall_mem_cons.mpr ⟨vm_l302, List.forall_mem_cons.mpr ⟨vm_l303, fun _ h => absurd h List.not_mem_nil⟩⟩⟩⟩⟩⟩⟩⟩⟩⟩⟩⟩⟩⟩⟩⟩
theorem vm_cT_19 : ∀ q ∈ ([(12, 129, 0, 201, 1001)] : List (Nat × Nat × Nat × Nat × Nat)), vm_cf q.1 q.2.1 q.2.2.1 q.2.2.2.1 q.2.2.2.2 := List.forall_mem_cons.mpr ⟨vm_l304, fun _ h => absurd h List.not_mem_nil⟩
set_option maxRecDepth 100000 in
theorem vm_cT_eq : vm_cT = [(0, 3, 5, 0, 0), (0, 13, 2, 54, 1), (0, 24, 0, 57, 500), (0, 31, 0, 62, 501), (0, 35, 0, 56, 500), (0, 39, 0, 59, 501), (0, 43, 0, 76, 701), (0, 49, 3, 126, 3), (0, 53, 0, 58, 501), (0, 56, 0, 55, 500), (0, 60, 0, 4, 0), (0, 63, 0, 60, 502), (0, 67, 0, 7, 2), (0, 70, 0, 8, 3), (0, 73, 0, 10, 1), (0, 76, 0, 9, 3)] ++ ([(0, 79, 1, 30, 2), (0, 84, 0, 13, 2), (0, 87, 0, 78, 702), (0, 90, 0, 80, 701), (0, 93, 1, 31, 3), (0, 97, 1, 203, 2), (0, 102, 0, 14, 0), (0, 105, 0, 15, 2), (0, 109, 0, 16, 2), (0, 112, 0, 11, 2), (0, 115, 0, 12, 2), (1, 3, 5, 0, 0), (1, 11, 2, 54, 1), (1, 27, 0, 61, 501), (1, 32, 0, 7, 2), (1, 36, 0, 60, 502)] ++ ([(1, 40, 0, 5, 0), (1, 44, 0, 80, 701), (1, 50, 0, 27, 103), (1, 54, 0, 59, 501), (1, 56, 1, 29, 2), (1, 59, 1, 31, 3), (1, 65, 0, 28, 102), (1, 68, 0, 62, 501), (2, 9, 1, 32, 1), (2, 15, 1, 203, 2), (2, 21, 1, 202, 2), (3, 3, 5, 0, 0), (3, 11, 2, 54, 1), (3, 27, 0, 5, 0), (3, 37, 1, 203, 2), (3, 45, 0, 57, 500)] ++ ([(3, 48, 0, 7, 2), (3, 51, 0, 58, 501), (3, 54, 0, 61, 501), (3, 57, 0, 36, 204), (3, 61, 0, 59, 501), (3, 64, 0, 37, 204), (3, 67, 0, 60, 502), (3, 71, 0, 80, 701), (3, 76, 1, 31, 3), (3, 82, 1, 30, 2), (4, 3, 5, 0, 0), (4, 13, 2, 54, 1), (4, 36, 0, 57, 500), (4, 39, 0, 61, 501), (4, 42, 0, 41, 304), (4, 46, 0, 55, 500)] ++ ([(4, 50, 0, 59, 501), (4, 54, 0, 42, 301), (4, 57, 0, 79, 702), (4, 63, 0, 60, 502), (4, 67, 0, 58, 501), (5, 3, 5, 0, 0), (5, 13, 2, 54, 1), (5, 22, 4, 70, 0), (5, 29, 2, 0, 1), (5, 39, 0, 4, 0), (5, 43, 0, 77, 700), (5, 47, 0, 71, 700), (5, 50, 0, 1, 0), (5, 55, 0, 55, 500), (5, 58, 0, 48, 400), (5, 61, 0, 52, 400)] ++ ([(5, 64, 0, 49, 401), (5, 68, 0, 73, 701), (5, 72, 0, 50, 401), (5, 75, 0, 59, 501), (5, 79, 0, 74, 701), (5, 82, 0, 3, 1), (5, 85, 0, 57, 500), (5, 86, 1, 53, 1), (5, 89, 0, 58, 501), (5, 92, 0, 51, 400), (6, 3, 5, 0, 0), (6, 9, 1, 202, 2), (6, 25, 0, 57, 500), (6, 28, 0, 55, 500), (6, 31, 0, 59, 501), (6, 35, 0, 58, 501)] ++ ([(7, 1, 5, 0, 0), (7, 7, 1, 202, 2), (7, 21, 2, 0, 1), (7, 28, 0, 65, 600), (7, 35, 0, 69, 601), (7, 39, 0, 2, 1), (7, 43, 1, 204, 2), (8, 3, 5, 0, 0), (8, 11, 2, 54, 1), (8, 33, 0, 57, 500), (8, 36, 0, 62, 501), (8, 40, 0, 56, 500), (8, 44, 0, 59, 501), (8, 48, 0, 58, 501), (8, 51, 3, 126, 3), (8, 55, 0, 55, 500)] ++ ([(8, 59, 0, 76, 701), (8, 63, 3, 125, 1), (8, 66, 0, 78, 702), (8, 70, 1, 204, 2), (8, 75, 0, 82, 701), (8, 78, 0, 79, 702), (8, 81, 0, 84, 702), (8, 85, 0, 61, 501), (8, 88, 0, 60, 502), (8, 92, 0, 86, 700), (9, 3, 5, 0, 0), (9, 11, 2, 54, 1), (9, 29, 0, 7, 2), (9, 33, 0, 81, 701), (9, 43, 0, 57, 500), (9, 46, 0, 58, 501)] ++ ([(9, 49, 0, 61, 501), (9, 55, 0, 90, 803), (9, 59, 0, 59, 501), (9, 61, 0, 91, 804), (9, 65, 1, 30, 2), (9, 70, 0, 60, 502), (9, 74, 0, 79, 702), (10, 1, 5, 0, 0), (10, 11, 2, 54, 1), (10, 23, 4, 70, 0), (10, 30, 2, 0, 1), (10, 42, 2, 63, 2), (10, 54, 2, 43, 1), (10, 63, 2, 33, 1), (10, 70, 2, 87, 1), (10, 77, 2, 38, 1)] ++ ([(10, 84, 2, 25, 1), (10, 91, 6, 0, 0), (10, 97, 7, 0, 0), (10, 101, 0, 58, 501), (10, 104, 0, 121, 900), (10, 108, 0, 57, 500), (10, 111, 1, 126, 3), (10, 115, 0, 56, 500), (10, 118, 0, 55, 500), (10, 121, 0, 47, 400), (10, 124, 0, 4, 0), (10, 127, 0, 76, 701), (10, 131, 1, 125, 1), (10, 134, 0, 78, 702), (10, 138, 0, 5, 0), (10, 141, 0, 80, 701)] ++ ([(10, 145, 0, 6, 1), (10, 148, 0, 7, 2), (10, 151, 0, 11, 2), (10, 155, 0, 67, 601), (10, 159, 0, 12, 2), (10, 163, 0, 14, 0), (10, 166, 0, 22, 0), (10, 169, 0, 123, 902), (10, 172, 0, 15, 2), (10, 175, 0, 16, 2), (10, 178, 0, 10, 1), (10, 181, 0, 17, 2), (10, 184, 0, 18, 3), (10, 187, 0, 19, 3), (10, 191, 0, 68, 601), (10, 195, 0, 64, 600)] ++ ([(10, 196, 0, 20, 1), (10, 199, 0, 34, 203), (10, 203, 0, 35, 201), (10, 206, 0, 88, 803), (10, 207, 0, 89, 801), (10, 210, 0, 39, 302), (10, 213, 0, 40, 301), (10, 214, 0, 81, 701), (10, 217, 0, 122, 904), (10, 221, 0, 83, 702), (10, 225, 0, 85, 703), (10, 229, 0, 26, 105), (10, 233, 0, 2, 1), (10, 236, 1, 124, 2), (10, 239, 0, 21, 1), (10, 242, 0, 24, 0)] ++ ([(10, 245, 0, 65, 600), (10, 246, 0, 66, 600), (10, 247, 0, 75, 700), (10, 250, 0, 23, 0), (10, 253, 0, 46, 400), (10, 256, 0, 44, 400), (10, 259, 0, 72, 701), (10, 261, 0, 45, 400), (11, 1, 5, 0, 0), (11, 61, 1, 131, 2), (11, 65, 1, 132, 4), (11, 69, 0, 133, 1000), (11, 86, 1, 128, 3), (11, 96, 0, 136, 1000), (11, 104, 1, 138, 1), (11, 111, 0, 139, 1002)] ++ ([(11, 115, 0, 137, 1001), (11, 118, 0, 140, 1000), (11, 122, 0, 141, 1000), (11, 125, 0, 142, 1000), (11, 128, 0, 143, 1000), (11, 131, 0, 144, 1000), (11, 134, 0, 146, 1000), (11, 137, 1, 130, 5), (11, 143, 0, 151, 1002), (11, 147, 0, 148, 1001), (11, 150, 1, 149, 1), (11, 155, 0, 153, 1001), (11, 159, 0, 150, 1001), (11, 162, 1, 157, 2), (11, 165, 1, 160, 2), (11, 168, 1, 158, 3)] ++ ([(11, 172, 1, 161, 3), (11, 176, 0, 165, 1000), (11, 179, 0, 162, 1003), (11, 185, 0, 163, 1001), (11, 189, 0, 164, 1001), (11, 193, 1, 168, 3), (11, 196, 1, 169, 3), (11, 199, 0, 159, 1001), (11, 202, 0, 172, 1003), (11, 206, 0, 178, 1001), (11, 210, 0, 177, 1003), (11, 215, 0, 176, 1001), (11, 219, 0, 179, 1002), (11, 222, 0, 152, 1002), (11, 225, 0, 181, 1003), (11, 228, 0, 182, 1002)] ++ ([(11, 231, 0, 185, 1001), (11, 234, 0, 184, 1002), (11, 237, 1, 129, 2), (11, 240, 0, 188, 1004), (11, 248, 1, 194, 3), (11, 262, 1, 196, 1), (11, 265, 0, 200, 1000), (12, 9, 2, 92, 0), (12, 12, 2, 127, 0), (12, 13, 0, 93, 901), (12, 17, 0, 134, 1001), (12, 18, 0, 94, 900), (12, 22, 0, 135, 1000), (12, 23, 0, 95, 900), (12, 26, 0, 145, 1000), (12, 27, 0, 96, 900)] ++ ([(12, 30, 0, 147, 1000), (12, 31, 0, 97, 902), (12, 35, 0, 154, 1002), (12, 36, 0, 98, 901), (12, 39, 0, 155, 1001), (12, 40, 0, 99, 902), (12, 43, 0, 156, 1002), (12, 44, 0, 100, 902), (12, 47, 0, 166, 1002), (12, 48, 0, 101, 901), (12, 51, 0, 167, 1001), (12, 52, 0, 102, 902), (12, 55, 0, 170, 1002), (12, 56, 0, 103, 902), (12, 59, 0, 171, 1002), (12, 60, 0, 104, 903)] ++ ([(12, 64, 0, 173, 1003), (12, 65, 0, 105, 900), (12, 68, 0, 174, 1000), (12, 69, 0, 106, 901), (12, 72, 0, 175, 1001), (12, 73, 0, 107, 903), (12, 76, 0, 180, 1003), (12, 77, 0, 108, 903), (12, 80, 0, 183, 1003), (12, 81, 0, 109, 903), (12, 84, 0, 186, 1003), (12, 85, 0, 110, 901), (12, 88, 0, 187, 1001), (12, 89, 0, 111, 903), (12, 92, 0, 189, 1003), (12, 93, 0, 112, 901)] ++ ([(12, 96, 0, 190, 1001), (12, 97, 0, 113, 900), (12, 100, 0, 191, 1000), (12, 101, 0, 114, 901), (12, 104, 0, 192, 1001), (12, 105, 0, 115, 903), (12, 108, 0, 193, 1003), (12, 109, 0, 116, 904), (12, 113, 0, 195, 1004), (12, 114, 0, 117, 903), (12, 117, 0, 197, 1003), (12, 118, 0, 118, 900), (12, 121, 0, 198, 1000), (12, 122, 0, 119, 900), (12, 125, 0, 199, 1000), (12, 126, 0, 120, 901)] ++ ([(12, 129, 0, 201, 1001)]))))))))))))))))))) := rfl
theorem vm_cT_ok : ∀ q ∈ vm_cT, vm_cf q.1 q.2.1 q.2.2.1 q.2.2.2.1 q.2.2.2.2 := by
  rw [vm_cT_eq]
  exact List.forall_mem_append.mpr ⟨vm_cT_0, List.forall_mem_append.mpr ⟨vm_cT_1, List.forall_mem_append.mpr ⟨vm_cT_2, List.forall_mem_append.mpr ⟨vm_cT_3, List.forall_mem_append.mpr ⟨vm_cT_4, List.forall_mem_append.mpr ⟨vm_cT_5, List.forall_mem_append.mpr ⟨vm_cT_6, List.forall_mem_append.mpr ⟨vm_cT_7, List.forall_mem_append.mpr ⟨vm_cT_8, List.forall_mem_append.mpr ⟨vm_cT_9, List.forall_mem_append.mpr ⟨vm_cT_10, List.forall_mem_append.mpr ⟨vm_cT_11, List.forall_mem_append.mpr ⟨vm_cT_12, List.forall_mem_append.mpr ⟨vm_cT_13, List.forall_mem_append.mpr ⟨vm_cT_14, List.forall_mem_append.mpr ⟨vm_cT_15, List.forall_mem_append.mpr ⟨vm_cT_16, List.forall_mem_append.mpr ⟨vm_cT_17, List.forall_mem_append.mpr ⟨vm_cT_18, vm_cT_19⟩⟩⟩⟩⟩⟩⟩⟩⟩⟩⟩⟩⟩⟩⟩⟩⟩⟩⟩
def vm_nf (o i a : Nat) : Prop := ∃ (own C : String) (T : u_T) (N : Nat), vm_nm[o]? = some own ∧ vwCl[a]? = some (C, T, N) ∧ Cond.classLink own i C ∈ vm_G ∧ Cond.instantiable C N ∈ vm_G ∧ Cond.initialized C ∈ vm_G
theorem vm_n0 : vm_nf 0 9 5 := ⟨RX0, RX6, TX6, 2, rfl, rfl, vm_r4 _ (List.mem_of_getElem? (i := 2) rfl), vm_r1 _ (List.mem_of_getElem? (i := 13) rfl), vm_r1 _ (List.mem_of_getElem? (i := 14) rfl)⟩
theorem vm_n1 : vm_nf 1 9 5 := ⟨RX1, RX6, TX6, 2, rfl, rfl, vm_r6 _ (List.mem_of_getElem? (i := 13) rfl), vm_r1 _ (List.mem_of_getElem? (i := 13) rfl), vm_r1 _ (List.mem_of_getElem? (i := 14) rfl)⟩
theorem vm_n2 : vm_nf 3 9 5 := ⟨RX3, RX6, TX6, 2, rfl, rfl, vm_r5 _ (List.mem_of_getElem? (i := 7) rfl), vm_r1 _ (List.mem_of_getElem? (i := 13) rfl), vm_r1 _ (List.mem_of_getElem? (i := 14) rfl)⟩
theorem vm_n3 : vm_nf 4 9 5 := ⟨RX4, RX6, TX6, 2, rfl, rfl, vm_r6 _ (List.mem_of_getElem? (i := 1) rfl), vm_r1 _ (List.mem_of_getElem? (i := 13) rfl), vm_r1 _ (List.mem_of_getElem? (i := 14) rfl)⟩
theorem vm_n4 : vm_nf 5 9 5 := ⟨RX5, RX6, TX6, 2, rfl, rfl, vm_r4 _ (List.mem_of_getElem? (i := 18) rfl), vm_r1 _ (List.mem_of_getElem? (i := 13) rfl), vm_r1 _ (List.mem_of_getElem? (i := 14) rfl)⟩
theorem vm_n5 : vm_nf 5 20 7 := ⟨RX5, RX8, TX8, 5, rfl, rfl, vm_r4 _ (List.mem_of_getElem? (i := 20) rfl), vm_r1 _ (List.mem_of_getElem? (i := 18) rfl), vm_r1 _ (List.mem_of_getElem? (i := 19) rfl)⟩
theorem vm_n6 : vm_nf 5 27 0 := ⟨RX5, RX0, TX0, 3, rfl, rfl, vm_r4 _ (List.mem_of_getElem? (i := 22) rfl), vm_r1 _ (List.mem_of_getElem? (i := 22) rfl), vm_r1 _ (List.mem_of_getElem? (i := 23) rfl)⟩
theorem vm_n7 : vm_nf 7 13 0 := ⟨RX7, RX0, TX0, 3, rfl, rfl, vm_r4 _ (List.mem_of_getElem? (i := 11) rfl), vm_r1 _ (List.mem_of_getElem? (i := 22) rfl), vm_r1 _ (List.mem_of_getElem? (i := 23) rfl)⟩
theorem vm_n8 : vm_nf 8 9 5 := ⟨RX8, RX6, TX6, 2, rfl, rfl, vm_r3 _ (List.mem_of_getElem? (i := 16) rfl), vm_r1 _ (List.mem_of_getElem? (i := 13) rfl), vm_r1 _ (List.mem_of_getElem? (i := 14) rfl)⟩
theorem vm_n9 : vm_nf 9 9 5 := ⟨RX9, RX6, TX6, 2, rfl, rfl, vm_r5 _ (List.mem_of_getElem? (i := 16) rfl), vm_r1 _ (List.mem_of_getElem? (i := 13) rfl), vm_r1 _ (List.mem_of_getElem? (i := 14) rfl)⟩
theorem vm_n10 : vm_nf 10 7 5 := ⟨RX10, RX6, TX6, 2, rfl, rfl, vm_r1 _ (List.mem_of_getElem? (i := 12) rfl), vm_r1 _ (List.mem_of_getElem? (i := 13) rfl), vm_r1 _ (List.mem_of_getElem? (i := 14) rfl)⟩
theorem vm_n11 : vm_nf 10 21 7 := ⟨RX10, RX8, TX8, 5, rfl, rfl, vm_r1 _ (List.mem_of_getElem? (i := 17) rfl), vm_r1 _ (List.mem_of_getElem? (i := 18) rfl), vm_r1 _ (List.mem_of_getElem? (i := 19) rfl)⟩
theorem vm_n12 : vm_nf 10 28 0 := ⟨RX10, RX0, TX0, 3, rfl, rfl, vm_r1 _ (List.mem_of_getElem? (i := 21) rfl), vm_r1 _ (List.mem_of_getElem? (i := 22) rfl), vm_r1 _ (List.mem_of_getElem? (i := 23) rfl)⟩
theorem vm_n13 : vm_nf 10 40 6 := ⟨RX10, RX7, TX7, 3, rfl, rfl, vm_r2 _ (List.mem_of_getElem? (i := 2) rfl), vm_r2 _ (List.mem_of_getElem? (i := 3) rfl), vm_r2 _ (List.mem_of_getElem? (i := 4) rfl)⟩
theorem vm_n14 : vm_nf 10 52 4 := ⟨RX10, RX5, TX5, 5, rfl, rfl, vm_r2 _ (List.mem_of_getElem? (i := 7) rfl), vm_r2 _ (List.mem_of_getElem? (i := 8) rfl), vm_r2 _ (List.mem_of_getElem? (i := 9) rfl)⟩
theorem vm_n15 : vm_nf 10 61 2 := ⟨RX10, RX3, TX3, 5, rfl, rfl, vm_r2 _ (List.mem_of_getElem? (i := 11) rfl), vm_r2 _ (List.mem_of_getElem? (i := 12) rfl), vm_r2 _ (List.mem_of_getElem? (i := 13) rfl)⟩
theorem vm_n16 : vm_nf 10 68 8 := ⟨RX10, RX9, TX9, 5, rfl, rfl, vm_r2 _ (List.mem_of_getElem? (i := 15) rfl), vm_r2 _ (List.mem_of_getElem? (i := 16) rfl), vm_r2 _ (List.mem_of_getElem? (i := 17) rfl)⟩
theorem vm_n17 : vm_nf 10 75 3 := ⟨RX10, RX4, TX4, 6, rfl, rfl, vm_r2 _ (List.mem_of_getElem? (i := 19) rfl), vm_r2 _ (List.mem_of_getElem? (i := 20) rfl), vm_r2 _ (List.mem_of_getElem? (i := 21) rfl)⟩
theorem vm_n18 : vm_nf 10 82 1 := ⟨RX10, RX1, TX1, 3, rfl, rfl, vm_r2 _ (List.mem_of_getElem? (i := 23) rfl), vm_r3 _ (List.mem_of_getElem? (i := 0) rfl), vm_r3 _ (List.mem_of_getElem? (i := 1) rfl)⟩
theorem vm_n19 : vm_nf 12 7 9 := ⟨RL, RX10, TX10, 12, rfl, rfl, vm_r1 _ (List.mem_of_getElem? (i := 0) rfl), vm_r1 _ (List.mem_of_getElem? (i := 1) rfl), vm_r1 _ (List.mem_of_getElem? (i := 2) rfl)⟩
theorem vm_n20 : vm_nf 12 10 10 := ⟨RL, RX11, TX11, 23, rfl, rfl, vm_r1 _ (List.mem_of_getElem? (i := 3) rfl), vm_r1 _ (List.mem_of_getElem? (i := 4) rfl), vm_r1 _ (List.mem_of_getElem? (i := 5) rfl)⟩
set_option maxRecDepth 100000 in
def vm_nT : List (Nat × Nat × Nat) := [(0, 9, 5), (1, 9, 5), (3, 9, 5), (4, 9, 5), (5, 9, 5), (5, 20, 7), (5, 27, 0), (7, 13, 0), (8, 9, 5), (9, 9, 5), (10, 7, 5), (10, 21, 7), (10, 28, 0), (10, 40, 6), (10, 52, 4), (10, 61, 2), (10, 68, 8), (10, 75, 3), (10, 82, 1), (12, 7, 9), (12, 10, 10)]
theorem vm_nT_0 : ∀ q ∈ ([(0, 9, 5), (1, 9, 5), (3, 9, 5), (4, 9, 5), (5, 9, 5), (5, 20, 7), (5, 27, 0), (7, 13, 0), (8, 9, 5), (9, 9, 5), (10, 7, 5), (10, 21, 7), (10, 28, 0), (10, 40, 6), (10, 52, 4), (10, 61, 2)] : List (Nat × Nat × Nat)), vm_nf q.1 q.2.1 q.2.2 := List.forall_mem_cons.mpr ⟨vm_n0, List.forall_mem_cons.mpr ⟨vm_n1, List.forall_mem_cons.mpr ⟨vm_n2, List.forall_mem_cons.mpr ⟨vm_n3, List.forall_mem_cons.mpr ⟨vm_n4, List.forall_mem_cons.mpr ⟨vm_n5, List.forall_mem_cons.mpr ⟨vm_n6, List.forall_mem_cons.mpr ⟨vm_n7, List.forall_mem_cons.mpr ⟨vm_n8, List.forall_mem_cons.mpr ⟨vm_n9, List.forall_mem_cons.mpr ⟨vm_n10, List.forall_mem_cons.mpr ⟨vm_n11, List.forall_mem_cons.mpr ⟨vm_n12, List.forall_mem_cons.mpr ⟨vm_n13, List.forall_mem_cons.mpr ⟨vm_n14, List.forall_mem_cons.mpr ⟨vm_n15, fun _ h => absurd h List.not_mem_nil⟩⟩⟩⟩⟩⟩⟩⟩⟩⟩⟩⟩⟩⟩⟩⟩
theorem vm_nT_1 : ∀ q ∈ ([(10, 68, 8), (10, 75, 3), (10, 82, 1), (12, 7, 9), (12, 10, 10)] : List (Nat × Nat × Nat)), vm_nf q.1 q.2.1 q.2.2 := List.forall_mem_cons.mpr ⟨vm_n16, List.forall_mem_cons.mpr ⟨vm_n17, List.forall_mem_cons.mpr ⟨vm_n18, List.forall_mem_cons.mpr ⟨vm_n19, List.forall_mem_cons.mpr ⟨vm_n20, fun _ h => absurd h List.not_mem_nil⟩⟩⟩⟩⟩
set_option maxRecDepth 100000 in
theorem vm_nT_eq : vm_nT = [(0, 9, 5), (1, 9, 5), (3, 9, 5), (4, 9, 5), (5, 9, 5), (5, 20, 7), (5, 27, 0), (7, 13, 0), (8, 9, 5), (9, 9, 5), (10, 7, 5), (10, 21, 7), (10, 28, 0), (10, 40, 6), (10, 52, 4), (10, 61, 2)] ++ ([(10, 68, 8), (10, 75, 3), (10, 82, 1), (12, 7, 9), (12, 10, 10)]) := rfl
theorem vm_nT_ok : ∀ q ∈ vm_nT, vm_nf q.1 q.2.1 q.2.2 := by
  rw [vm_nT_eq]
  exact List.forall_mem_append.mpr ⟨vm_nT_0, vm_nT_1⟩
def vm_KI : List Int32 := [(1000000)]
def vm_KL : List Int64 := [(7919), (6151), (65521), (32), (126), (48), (57), (3), (99), (24), (6), (8), (10), (9999), (60)]
def vm_if (o i a : Nat) : Prop := ∃ (own : String) (v : Int32), vm_nm[o]? = some own ∧ vm_KI[a]? = some v ∧ Cond.constant own i v ∈ vm_G
theorem vm_i0 : vm_if 11 209 0 := ⟨RX11, (1000000), rfl, rfl, vm_r32 _ (List.mem_of_getElem? (i := 20) rfl)⟩
set_option maxRecDepth 100000 in
def vm_iT : List (Nat × Nat × Nat) := [(11, 209, 0)]
theorem vm_iT_0 : ∀ q ∈ ([(11, 209, 0)] : List (Nat × Nat × Nat)), vm_if q.1 q.2.1 q.2.2 := List.forall_mem_cons.mpr ⟨vm_i0, fun _ h => absurd h List.not_mem_nil⟩
set_option maxRecDepth 100000 in
theorem vm_iT_eq : vm_iT = [(11, 209, 0)] := rfl
theorem vm_iT_ok : ∀ q ∈ vm_iT, vm_if q.1 q.2.1 q.2.2 := by
  rw [vm_iT_eq]
  exact vm_iT_0
def vm_lf (o i a : Nat) : Prop := ∃ (own : String) (v : Int64), vm_nm[o]? = some own ∧ vm_KL[a]? = some v ∧ Cond.constantLong own i v ∈ vm_G
theorem vm_j0 : vm_lf 10 264 0 := ⟨RX10, (7919), rfl, rfl, vm_r42 _ (List.mem_of_getElem? (i := 16) rfl)⟩
theorem vm_j1 : vm_lf 10 266 1 := ⟨RX10, (6151), rfl, rfl, vm_r42 _ (List.mem_of_getElem? (i := 17) rfl)⟩
theorem vm_j2 : vm_lf 10 268 2 := ⟨RX10, (65521), rfl, rfl, vm_r42 _ (List.mem_of_getElem? (i := 18) rfl)⟩
theorem vm_j3 : vm_lf 11 82 3 := ⟨RX11, (32), rfl, rfl, vm_r16 _ (List.mem_of_getElem? (i := 7) rfl)⟩
theorem vm_j4 : vm_lf 11 84 4 := ⟨RX11, (126), rfl, rfl, vm_r16 _ (List.mem_of_getElem? (i := 8) rfl)⟩
theorem vm_j5 : vm_lf 11 100 5 := ⟨RX11, (48), rfl, rfl, vm_r18 _ (List.mem_of_getElem? (i := 1) rfl)⟩
theorem vm_j6 : vm_lf 11 102 6 := ⟨RX11, (57), rfl, rfl, vm_r18 _ (List.mem_of_getElem? (i := 2) rfl)⟩
theorem vm_j7 : vm_lf 11 141 7 := ⟨RX11, (3), rfl, rfl, vm_r20 _ (List.mem_of_getElem? (i := 11) rfl)⟩
theorem vm_j8 : vm_lf 11 153 8 := ⟨RX11, (99), rfl, rfl, vm_r21 _ (List.mem_of_getElem? (i := 12) rfl)⟩
theorem vm_j9 : vm_lf 11 183 9 := ⟨RX11, (24), rfl, rfl, vm_r26 _ (List.mem_of_getElem? (i := 19) rfl)⟩
theorem vm_j10 : vm_lf 11 213 10 := ⟨RX11, (6), rfl, rfl, vm_r32 _ (List.mem_of_getElem? (i := 19) rfl)⟩
theorem vm_j11 : vm_lf 11 244 11 := ⟨RX11, (8), rfl, rfl, vm_r40 _ (List.mem_of_getElem? (i := 21) rfl)⟩
theorem vm_j12 : vm_lf 11 246 12 := ⟨RX11, (10), rfl, rfl, vm_r42 _ (List.mem_of_getElem? (i := 5) rfl)⟩
theorem vm_j13 : vm_lf 11 252 13 := ⟨RX11, (9999), rfl, rfl, vm_r43 _ (List.mem_of_getElem? (i := 12) rfl)⟩
theorem vm_j14 : vm_lf 11 254 14 := ⟨RX11, (60), rfl, rfl, vm_r43 _ (List.mem_of_getElem? (i := 13) rfl)⟩
theorem vm_j15 : vm_lf 11 256 0 := ⟨RX11, (7919), rfl, rfl, vm_r43 _ (List.mem_of_getElem? (i := 14) rfl)⟩
theorem vm_j16 : vm_lf 11 258 1 := ⟨RX11, (6151), rfl, rfl, vm_r43 _ (List.mem_of_getElem? (i := 15) rfl)⟩
theorem vm_j17 : vm_lf 11 260 2 := ⟨RX11, (65521), rfl, rfl, vm_r43 _ (List.mem_of_getElem? (i := 16) rfl)⟩
set_option maxRecDepth 100000 in
def vm_lT : List (Nat × Nat × Nat) := [(10, 264, 0), (10, 266, 1), (10, 268, 2), (11, 82, 3), (11, 84, 4), (11, 100, 5), (11, 102, 6), (11, 141, 7), (11, 153, 8), (11, 183, 9), (11, 213, 10), (11, 244, 11), (11, 246, 12), (11, 252, 13), (11, 254, 14), (11, 256, 0), (11, 258, 1), (11, 260, 2)]
theorem vm_lT_0 : ∀ q ∈ ([(10, 264, 0), (10, 266, 1), (10, 268, 2), (11, 82, 3), (11, 84, 4), (11, 100, 5), (11, 102, 6), (11, 141, 7), (11, 153, 8), (11, 183, 9), (11, 213, 10), (11, 244, 11), (11, 246, 12), (11, 252, 13), (11, 254, 14), (11, 256, 0)] : List (Nat × Nat × Nat)), vm_lf q.1 q.2.1 q.2.2 := List.forall_mem_cons.mpr ⟨vm_j0, List.forall_mem_cons.mpr ⟨vm_j1, List.forall_mem_cons.mpr ⟨vm_j2, List.forall_mem_cons.mpr ⟨vm_j3, List.forall_mem_cons.mpr ⟨vm_j4, List.forall_mem_cons.mpr ⟨vm_j5, List.forall_mem_cons.mpr ⟨vm_j6, List.forall_mem_cons.mpr ⟨vm_j7, List.forall_mem_cons.mpr ⟨vm_j8, List.forall_mem_cons.mpr ⟨vm_j9, List.forall_mem_cons.mpr ⟨vm_j10, List.forall_mem_cons.mpr ⟨vm_j11, List.forall_mem_cons.mpr ⟨vm_j12, List.forall_mem_cons.mpr ⟨vm_j13, List.forall_mem_cons.mpr ⟨vm_j14, List.forall_mem_cons.mpr ⟨vm_j15, fun _ h => absurd h List.not_mem_nil⟩⟩⟩⟩⟩⟩⟩⟩⟩⟩⟩⟩⟩⟩⟩⟩
theorem vm_lT_1 : ∀ q ∈ ([(11, 258, 1), (11, 260, 2)] : List (Nat × Nat × Nat)), vm_lf q.1 q.2.1 q.2.2 := List.forall_mem_cons.mpr ⟨vm_j16, List.forall_mem_cons.mpr ⟨vm_j17, fun _ h => absurd h List.not_mem_nil⟩⟩
set_option maxRecDepth 100000 in
theorem vm_lT_eq : vm_lT = [(10, 264, 0), (10, 266, 1), (10, 268, 2), (11, 82, 3), (11, 84, 4), (11, 100, 5), (11, 102, 6), (11, 141, 7), (11, 153, 8), (11, 183, 9), (11, 213, 10), (11, 244, 11), (11, 246, 12), (11, 252, 13), (11, 254, 14), (11, 256, 0)] ++ ([(11, 258, 1), (11, 260, 2)]) := rfl
theorem vm_lT_ok : ∀ q ∈ vm_lT, vm_lf q.1 q.2.1 q.2.2 := by
  rw [vm_lT_eq]
  exact List.forall_mem_append.mpr ⟨vm_lT_0, vm_lT_1⟩
def vm_len (i : Instr) (n : Nat) : Nat := match i with
  | .tableswitch .. => n
  | .lookupswitch .. => n
  | .bipush _ => 2
  | .newarray _ => 2
  | .iload _ => 2
  | .istore _ => 2
  | .aload _ => 2
  | .astore _ => 2
  | .lload _ => 2
  | .lstore _ => 2
  | .ldc _ => 2
  | .sipush _ => 3
  | .ldc2_w _ => 3
  | .iinc _ _ => 3
  | .goto _ => 3
  | .ifCond _ _ => 3
  | .if_icmp _ _ => 3
  | .ifnull _ => 3
  | .ifnonnull _ => 3
  | .getfield _ => 3
  | .putfield _ => 3
  | .invokevirtual _ => 3
  | .invokestatic _ => 3
  | .invokespecial _ => 3
  | .new _ => 3
  | .anewarray _ => 3
  | _ => 1
def vm_chk (o : Nat) (q : vm_I) : Bool := (q.2.2.1 == vm_len q.2.1 q.2.2.1) && (match q.2.1 with
  | .getfield x => decide ((o, x, q.2.2.2.1, q.2.2.2.2.1) ∈ vm_fT)
  | .putfield x => decide ((o, x, q.2.2.2.1, q.2.2.2.2.1) ∈ vm_fT)
  | .invokevirtual x => decide ((o, x, q.2.2.2.1, q.2.2.2.2.1, q.2.2.2.2.2) ∈ vm_cT) && (q.2.2.2.1 == 0 || q.2.2.2.1 == 6 || q.2.2.2.1 == 7)
  | .invokestatic x => decide ((o, x, q.2.2.2.1, q.2.2.2.2.1, q.2.2.2.2.2) ∈ vm_cT) && (q.2.2.2.1 == 1 || q.2.2.2.1 == 3)
  | .invokespecial x => decide ((o, x, q.2.2.2.1, q.2.2.2.2.1, q.2.2.2.2.2) ∈ vm_cT) && (q.2.2.2.1 == 2 || q.2.2.2.1 == 4 || q.2.2.2.1 == 5)
  | .new x => decide ((o, x, q.2.2.2.1) ∈ vm_nT)
  | .anewarray x => decide ((o, x, q.2.2.2.1) ∈ vm_nT) && (q.2.2.2.1 == 0)
  | .newarray t => match t with
    | .int => true
    | _ => false
  | .ldc x => if q.2.2.2.1 = 99 then (o == 10 && x == 89) else decide ((o, x, q.2.2.2.1) ∈ vm_iT)
  | .ldc2_w x => decide ((o, x, q.2.2.2.1) ∈ vm_lT)
  | _ => true)
/-- a method of the table: its own class, its bytes, its checks -/
def vm_ok (r : vm_M) : Prop := ∃ o, vm_nm[o]? = some r.1 ∧ (∀ q ∈ r.2.2.2.2.2, decode r.2.2.1 q.1 = .ok (q.2.1, q.2.2.1)) ∧ (∀ q ∈ r.2.2.2.2.2, vm_chk o q = true) ∧ r.2.2.2.1 ≤ 20 ∧ r.2.1.cls = r.1
/-- a method that may be called -/
def vm_mf (r : vm_M) : Prop := plainFor r.2.1 = true ∧ Cond.code r.2.1 r.2.2.1 r.2.2.2.1 r.2.2.2.2.1 ∈ vm_G ∧ Cond.initialized r.2.1.cls ∈ vm_G ∧ r.2.1.cls ≠ "java/lang/invoke/MethodHandle" ∧ r.2.1.cls ≠ "java/lang/invoke/VarHandle"
set_option maxRecDepth 100000 in
theorem vm_c0 : ∀ q ∈ vm_k0, vm_chk 0 q = true := by decide +kernel
theorem vm_o0 : vm_ok vm_m0 := ⟨0, rfl, vm_d0, vm_c0, by decide, rfl⟩
theorem vm_p0 : vm_mf vm_m0 := ⟨by decide +kernel, vm_r4 _ (List.mem_of_getElem? (i := 0) rfl), vm_r1 _ (List.mem_of_getElem? (i := 23) rfl), by decide +kernel, by decide +kernel⟩
set_option maxRecDepth 100000 in
theorem vm_c1 : ∀ q ∈ vm_k1, vm_chk 0 q = true := by decide +kernel
theorem vm_o1 : vm_ok vm_m1 := ⟨0, rfl, vm_d1, vm_c1, by decide, rfl⟩
theorem vm_p1 : vm_mf vm_m1 := ⟨by decide +kernel, vm_r9 _ (List.mem_of_getElem? (i := 21) rfl), vm_r1 _ (List.mem_of_getElem? (i := 23) rfl), by decide +kernel, by decide +kernel⟩
set_option maxRecDepth 100000 in
theorem vm_c2 : ∀ q ∈ vm_k2, vm_chk 0 q = true := by decide +kernel
theorem vm_o2 : vm_ok vm_m2 := ⟨0, rfl, vm_d2, vm_c2, by decide, rfl⟩
theorem vm_p2 : vm_mf vm_m2 := ⟨by decide +kernel, vm_r14 _ (List.mem_of_getElem? (i := 2) rfl), vm_r1 _ (List.mem_of_getElem? (i := 23) rfl), by decide +kernel, by decide +kernel⟩
set_option maxRecDepth 100000 in
theorem vm_c3 : ∀ q ∈ vm_k3, vm_chk 0 q = true := by decide +kernel
theorem vm_o3 : vm_ok vm_m3 := ⟨0, rfl, vm_d3, vm_c3, by decide, rfl⟩
theorem vm_p3 : vm_mf vm_m3 := ⟨by decide +kernel, vm_r12 _ (List.mem_of_getElem? (i := 4) rfl), vm_r1 _ (List.mem_of_getElem? (i := 23) rfl), by decide +kernel, by decide +kernel⟩
set_option maxRecDepth 100000 in
theorem vm_c4 : ∀ q ∈ vm_k4, vm_chk 0 q = true := by decide +kernel
theorem vm_o4 : vm_ok vm_m4 := ⟨0, rfl, vm_d4, vm_c4, by decide, rfl⟩
theorem vm_p4 : vm_mf vm_m4 := ⟨by decide +kernel, vm_r12 _ (List.mem_of_getElem? (i := 19) rfl), vm_r1 _ (List.mem_of_getElem? (i := 23) rfl), by decide +kernel, by decide +kernel⟩
set_option maxRecDepth 100000 in
theorem vm_c5 : ∀ q ∈ vm_k5, vm_chk 0 q = true := by decide +kernel
theorem vm_o5 : vm_ok vm_m5 := ⟨0, rfl, vm_d5, vm_c5, by decide, rfl⟩
theorem vm_p5 : vm_mf vm_m5 := ⟨by decide +kernel, vm_r20 _ (List.mem_of_getElem? (i := 23) rfl), vm_r1 _ (List.mem_of_getElem? (i := 23) rfl), by decide +kernel, by decide +kernel⟩
set_option maxRecDepth 100000 in
theorem vm_c6 : ∀ q ∈ vm_k6, vm_chk 0 q = true := by decide +kernel
theorem vm_o6 : vm_ok vm_m6 := ⟨0, rfl, vm_d6, vm_c6, by decide, rfl⟩
theorem vm_p6 : vm_mf vm_m6 := ⟨by decide +kernel, vm_r22 _ (List.mem_of_getElem? (i := 0) rfl), vm_r1 _ (List.mem_of_getElem? (i := 23) rfl), by decide +kernel, by decide +kernel⟩
set_option maxRecDepth 100000 in
theorem vm_c7 : ∀ q ∈ vm_k7, vm_chk 0 q = true := by decide +kernel
theorem vm_o7 : vm_ok vm_m7 := ⟨0, rfl, vm_d7, vm_c7, by decide, rfl⟩
theorem vm_p7 : vm_mf vm_m7 := ⟨by decide +kernel, vm_r22 _ (List.mem_of_getElem? (i := 5) rfl), vm_r1 _ (List.mem_of_getElem? (i := 23) rfl), by decide +kernel, by decide +kernel⟩
set_option maxRecDepth 100000 in
theorem vm_c8 : ∀ q ∈ vm_k8, vm_chk 0 q = true := by decide +kernel
theorem vm_o8 : vm_ok vm_m8 := ⟨0, rfl, vm_d8, vm_c8, by decide, rfl⟩
theorem vm_p8 : vm_mf vm_m8 := ⟨by decide +kernel, vm_r24 _ (List.mem_of_getElem? (i := 5) rfl), vm_r1 _ (List.mem_of_getElem? (i := 23) rfl), by decide +kernel, by decide +kernel⟩
set_option maxRecDepth 100000 in
theorem vm_c9 : ∀ q ∈ vm_k9, vm_chk 0 q = true := by decide +kernel
theorem vm_o9 : vm_ok vm_m9 := ⟨0, rfl, vm_d9, vm_c9, by decide, rfl⟩
theorem vm_p9 : vm_mf vm_m9 := ⟨by decide +kernel, vm_r24 _ (List.mem_of_getElem? (i := 1) rfl), vm_r1 _ (List.mem_of_getElem? (i := 23) rfl), by decide +kernel, by decide +kernel⟩
set_option maxRecDepth 100000 in
theorem vm_c10 : ∀ q ∈ vm_k10, vm_chk 0 q = true := by decide +kernel
theorem vm_o10 : vm_ok vm_m10 := ⟨0, rfl, vm_d10, vm_c10, by decide, rfl⟩
theorem vm_p10 : vm_mf vm_m10 := ⟨by decide +kernel, vm_r23 _ (List.mem_of_getElem? (i := 1) rfl), vm_r1 _ (List.mem_of_getElem? (i := 23) rfl), by decide +kernel, by decide +kernel⟩
set_option maxRecDepth 100000 in
theorem vm_c11 : ∀ q ∈ vm_k11, vm_chk 0 q = true := by decide +kernel
theorem vm_o11 : vm_ok vm_m11 := ⟨0, rfl, vm_d11, vm_c11, by decide, rfl⟩
theorem vm_p11 : vm_mf vm_m11 := ⟨by decide +kernel, vm_r22 _ (List.mem_of_getElem? (i := 21) rfl), vm_r1 _ (List.mem_of_getElem? (i := 23) rfl), by decide +kernel, by decide +kernel⟩
set_option maxRecDepth 100000 in
theorem vm_c12 : ∀ q ∈ vm_k12, vm_chk 0 q = true := by decide +kernel
theorem vm_o12 : vm_ok vm_m12 := ⟨0, rfl, vm_d12, vm_c12, by decide, rfl⟩
theorem vm_p12 : vm_mf vm_m12 := ⟨by decide +kernel, vm_r23 _ (List.mem_of_getElem? (i := 21) rfl), vm_r1 _ (List.mem_of_getElem? (i := 23) rfl), by decide +kernel, by decide +kernel⟩
set_option maxRecDepth 100000 in
theorem vm_c13 : ∀ q ∈ vm_k13, vm_chk 0 q = true := by decide +kernel
theorem vm_o13 : vm_ok vm_m13 := ⟨0, rfl, vm_d13, vm_c13, by decide, rfl⟩
theorem vm_p13 : vm_mf vm_m13 := ⟨by decide +kernel, vm_r25 _ (List.mem_of_getElem? (i := 0) rfl), vm_r1 _ (List.mem_of_getElem? (i := 23) rfl), by decide +kernel, by decide +kernel⟩
set_option maxRecDepth 100000 in
theorem vm_c14 : ∀ q ∈ vm_k14, vm_chk 0 q = true := by decide +kernel
theorem vm_o14 : vm_ok vm_m14 := ⟨0, rfl, vm_d14, vm_c14, by decide, rfl⟩
theorem vm_p14 : vm_mf vm_m14 := ⟨by decide +kernel, vm_r26 _ (List.mem_of_getElem? (i := 6) rfl), vm_r1 _ (List.mem_of_getElem? (i := 23) rfl), by decide +kernel, by decide +kernel⟩
set_option maxRecDepth 100000 in
theorem vm_c15 : ∀ q ∈ vm_k15, vm_chk 0 q = true := by decide +kernel
theorem vm_o15 : vm_ok vm_m15 := ⟨0, rfl, vm_d15, vm_c15, by decide, rfl⟩
theorem vm_p15 : vm_mf vm_m15 := ⟨by decide +kernel, vm_r27 _ (List.mem_of_getElem? (i := 18) rfl), vm_r1 _ (List.mem_of_getElem? (i := 23) rfl), by decide +kernel, by decide +kernel⟩
set_option maxRecDepth 100000 in
theorem vm_c16 : ∀ q ∈ vm_k16, vm_chk 0 q = true := by decide +kernel
theorem vm_o16 : vm_ok vm_m16 := ⟨0, rfl, vm_d16, vm_c16, by decide, rfl⟩
theorem vm_p16 : vm_mf vm_m16 := ⟨by decide +kernel, vm_r27 _ (List.mem_of_getElem? (i := 22) rfl), vm_r1 _ (List.mem_of_getElem? (i := 23) rfl), by decide +kernel, by decide +kernel⟩
set_option maxRecDepth 100000 in
theorem vm_c17 : ∀ q ∈ vm_k17, vm_chk 0 q = true := by decide +kernel
theorem vm_o17 : vm_ok vm_m17 := ⟨0, rfl, vm_d17, vm_c17, by decide, rfl⟩
theorem vm_p17 : vm_mf vm_m17 := ⟨by decide +kernel, vm_r28 _ (List.mem_of_getElem? (i := 17) rfl), vm_r1 _ (List.mem_of_getElem? (i := 23) rfl), by decide +kernel, by decide +kernel⟩
set_option maxRecDepth 100000 in
theorem vm_c18 : ∀ q ∈ vm_k18, vm_chk 0 q = true := by decide +kernel
theorem vm_o18 : vm_ok vm_m18 := ⟨0, rfl, vm_d18, vm_c18, by decide, rfl⟩
theorem vm_p18 : vm_mf vm_m18 := ⟨by decide +kernel, vm_r29 _ (List.mem_of_getElem? (i := 10) rfl), vm_r1 _ (List.mem_of_getElem? (i := 23) rfl), by decide +kernel, by decide +kernel⟩
set_option maxRecDepth 100000 in
theorem vm_c19 : ∀ q ∈ vm_k19, vm_chk 0 q = true := by decide +kernel
theorem vm_o19 : vm_ok vm_m19 := ⟨0, rfl, vm_d19, vm_c19, by decide, rfl⟩
theorem vm_p19 : vm_mf vm_m19 := ⟨by decide +kernel, vm_r29 _ (List.mem_of_getElem? (i := 14) rfl), vm_r1 _ (List.mem_of_getElem? (i := 23) rfl), by decide +kernel, by decide +kernel⟩
set_option maxRecDepth 100000 in
theorem vm_c20 : ∀ q ∈ vm_k20, vm_chk 0 q = true := by decide +kernel
theorem vm_o20 : vm_ok vm_m20 := ⟨0, rfl, vm_d20, vm_c20, by decide, rfl⟩
theorem vm_p20 : vm_mf vm_m20 := ⟨by decide +kernel, vm_r30 _ (List.mem_of_getElem? (i := 22) rfl), vm_r1 _ (List.mem_of_getElem? (i := 23) rfl), by decide +kernel, by decide +kernel⟩
set_option maxRecDepth 100000 in
theorem vm_c21 : ∀ q ∈ vm_k21, vm_chk 0 q = true := by decide +kernel
theorem vm_o21 : vm_ok vm_m21 := ⟨0, rfl, vm_d21, vm_c21, by decide, rfl⟩
theorem vm_p21 : vm_mf vm_m21 := ⟨by decide +kernel, vm_r42 _ (List.mem_of_getElem? (i := 22) rfl), vm_r1 _ (List.mem_of_getElem? (i := 23) rfl), by decide +kernel, by decide +kernel⟩
set_option maxRecDepth 100000 in
theorem vm_c22 : ∀ q ∈ vm_k22, vm_chk 0 q = true := by decide +kernel
theorem vm_o22 : vm_ok vm_m22 := ⟨0, rfl, vm_d22, vm_c22, by decide, rfl⟩
theorem vm_p22 : vm_mf vm_m22 := ⟨by decide +kernel, vm_r26 _ (List.mem_of_getElem? (i := 14) rfl), vm_r1 _ (List.mem_of_getElem? (i := 23) rfl), by decide +kernel, by decide +kernel⟩
set_option maxRecDepth 100000 in
theorem vm_c23 : ∀ q ∈ vm_k23, vm_chk 0 q = true := by decide +kernel
theorem vm_o23 : vm_ok vm_m23 := ⟨0, rfl, vm_d23, vm_c23, by decide, rfl⟩
theorem vm_p23 : vm_mf vm_m23 := ⟨by decide +kernel, vm_r45 _ (List.mem_of_getElem? (i := 0) rfl), vm_r1 _ (List.mem_of_getElem? (i := 23) rfl), by decide +kernel, by decide +kernel⟩
set_option maxRecDepth 100000 in
theorem vm_c24 : ∀ q ∈ vm_k24, vm_chk 0 q = true := by decide +kernel
theorem vm_o24 : vm_ok vm_m24 := ⟨0, rfl, vm_d24, vm_c24, by decide, rfl⟩
theorem vm_p24 : vm_mf vm_m24 := ⟨by decide +kernel, vm_r43 _ (List.mem_of_getElem? (i := 7) rfl), vm_r1 _ (List.mem_of_getElem? (i := 23) rfl), by decide +kernel, by decide +kernel⟩
set_option maxRecDepth 100000 in
theorem vm_c25 : ∀ q ∈ vm_k25, vm_chk 1 q = true := by decide +kernel
theorem vm_o25 : vm_ok vm_m25 := ⟨1, rfl, vm_d25, vm_c25, by decide, rfl⟩
theorem vm_p25 : vm_mf vm_m25 := ⟨by decide +kernel, vm_r6 _ (List.mem_of_getElem? (i := 11) rfl), vm_r3 _ (List.mem_of_getElem? (i := 1) rfl), by decide +kernel, by decide +kernel⟩
set_option maxRecDepth 100000 in
theorem vm_c26 : ∀ q ∈ vm_k26, vm_chk 1 q = true := by decide +kernel
theorem vm_o26 : vm_ok vm_m26 := ⟨1, rfl, vm_d26, vm_c26, by decide, rfl⟩
theorem vm_p26 : vm_mf vm_m26 := ⟨by decide +kernel, vm_r41 _ (List.mem_of_getElem? (i := 5) rfl), vm_r3 _ (List.mem_of_getElem? (i := 1) rfl), by decide +kernel, by decide +kernel⟩
set_option maxRecDepth 100000 in
theorem vm_c27 : ∀ q ∈ vm_k27, vm_chk 1 q = true := by decide +kernel
theorem vm_o27 : vm_ok vm_m27 := ⟨1, rfl, vm_d27, vm_c27, by decide, rfl⟩
theorem vm_p27 : vm_mf vm_m27 := ⟨by decide +kernel, vm_r41 _ (List.mem_of_getElem? (i := 14) rfl), vm_r3 _ (List.mem_of_getElem? (i := 1) rfl), by decide +kernel, by decide +kernel⟩
set_option maxRecDepth 100000 in
theorem vm_c28 : ∀ q ∈ vm_k28, vm_chk 1 q = true := by decide +kernel
theorem vm_o28 : vm_ok vm_m28 := ⟨1, rfl, vm_d28, vm_c28, by decide, rfl⟩
theorem vm_p28 : vm_mf vm_m28 := ⟨by decide +kernel, vm_r41 _ (List.mem_of_getElem? (i := 20) rfl), vm_r3 _ (List.mem_of_getElem? (i := 1) rfl), by decide +kernel, by decide +kernel⟩
set_option maxRecDepth 100000 in
theorem vm_c29 : ∀ q ∈ vm_k29, vm_chk 1 q = true := by decide +kernel
theorem vm_o29 : vm_ok vm_m29 := ⟨1, rfl, vm_d29, vm_c29, by decide, rfl⟩
theorem vm_p29 : vm_mf vm_m29 := ⟨by decide +kernel, vm_r42 _ (List.mem_of_getElem? (i := 0) rfl), vm_r3 _ (List.mem_of_getElem? (i := 1) rfl), by decide +kernel, by decide +kernel⟩
set_option maxRecDepth 100000 in
theorem vm_c30 : ∀ q ∈ vm_k30, vm_chk 2 q = true := by decide +kernel
theorem vm_o30 : vm_ok vm_m30 := ⟨2, rfl, vm_d30, vm_c30, by decide, rfl⟩
theorem vm_p30 : vm_mf vm_m30 := ⟨by decide +kernel, vm_r24 _ (List.mem_of_getElem? (i := 13) rfl), vm_r24 _ (List.mem_of_getElem? (i := 12) rfl), by decide +kernel, by decide +kernel⟩
set_option maxRecDepth 100000 in
theorem vm_c31 : ∀ q ∈ vm_k31, vm_chk 2 q = true := by decide +kernel
theorem vm_o31 : vm_ok vm_m31 := ⟨2, rfl, vm_d31, vm_c31, by decide, rfl⟩
theorem vm_p31 : vm_mf vm_m31 := ⟨by decide +kernel, vm_r26 _ (List.mem_of_getElem? (i := 10) rfl), vm_r24 _ (List.mem_of_getElem? (i := 12) rfl), by decide +kernel, by decide +kernel⟩
set_option maxRecDepth 100000 in
theorem vm_c32 : ∀ q ∈ vm_k32, vm_chk 2 q = true := by decide +kernel
theorem vm_o32 : vm_ok vm_m32 := ⟨2, rfl, vm_d32, vm_c32, by decide, rfl⟩
theorem vm_p32 : vm_mf vm_m32 := ⟨by decide +kernel, vm_r24 _ (List.mem_of_getElem? (i := 20) rfl), vm_r24 _ (List.mem_of_getElem? (i := 12) rfl), by decide +kernel, by decide +kernel⟩
set_option maxRecDepth 100000 in
theorem vm_c33 : ∀ q ∈ vm_k33, vm_chk 3 q = true := by decide +kernel
theorem vm_o33 : vm_ok vm_m33 := ⟨3, rfl, vm_d33, vm_c33, by decide, rfl⟩
theorem vm_p33 : vm_mf vm_m33 := ⟨by decide +kernel, vm_r5 _ (List.mem_of_getElem? (i := 5) rfl), vm_r2 _ (List.mem_of_getElem? (i := 13) rfl), by decide +kernel, by decide +kernel⟩
set_option maxRecDepth 100000 in
theorem vm_c34 : ∀ q ∈ vm_k34, vm_chk 3 q = true := by decide +kernel
theorem vm_o34 : vm_ok vm_m34 := ⟨3, rfl, vm_d34, vm_c34, by decide, rfl⟩
theorem vm_p34 : vm_mf vm_m34 := ⟨by decide +kernel, vm_r31 _ (List.mem_of_getElem? (i := 10) rfl), vm_r2 _ (List.mem_of_getElem? (i := 13) rfl), by decide +kernel, by decide +kernel⟩
set_option maxRecDepth 100000 in
theorem vm_c35 : ∀ q ∈ vm_k35, vm_chk 3 q = true := by decide +kernel
theorem vm_o35 : vm_ok vm_m35 := ⟨3, rfl, vm_d35, vm_c35, by decide, rfl⟩
theorem vm_p35 : vm_mf vm_m35 := ⟨by decide +kernel, vm_r32 _ (List.mem_of_getElem? (i := 14) rfl), vm_r2 _ (List.mem_of_getElem? (i := 13) rfl), by decide +kernel, by decide +kernel⟩
set_option maxRecDepth 100000 in
theorem vm_c36 : ∀ q ∈ vm_k36, vm_chk 3 q = true := by decide +kernel
theorem vm_o36 : vm_ok vm_m36 := ⟨3, rfl, vm_d36, vm_c36, by decide, rfl⟩
theorem vm_p36 : vm_mf vm_m36 := ⟨by decide +kernel, vm_r32 _ (List.mem_of_getElem? (i := 1) rfl), vm_r2 _ (List.mem_of_getElem? (i := 13) rfl), by decide +kernel, by decide +kernel⟩
set_option maxRecDepth 100000 in
theorem vm_c37 : ∀ q ∈ vm_k37, vm_chk 3 q = true := by decide +kernel
theorem vm_o37 : vm_ok vm_m37 := ⟨3, rfl, vm_d37, vm_c37, by decide, rfl⟩
theorem vm_p37 : vm_mf vm_m37 := ⟨by decide +kernel, vm_r32 _ (List.mem_of_getElem? (i := 8) rfl), vm_r2 _ (List.mem_of_getElem? (i := 13) rfl), by decide +kernel, by decide +kernel⟩
set_option maxRecDepth 100000 in
theorem vm_c38 : ∀ q ∈ vm_k38, vm_chk 4 q = true := by decide +kernel
theorem vm_o38 : vm_ok vm_m38 := ⟨4, rfl, vm_d38, vm_c38, by decide, rfl⟩
theorem vm_p38 : vm_mf vm_m38 := ⟨by decide +kernel, vm_r5 _ (List.mem_of_getElem? (i := 23) rfl), vm_r2 _ (List.mem_of_getElem? (i := 21) rfl), by decide +kernel, by decide +kernel⟩
set_option maxRecDepth 100000 in
theorem vm_c39 : ∀ q ∈ vm_k39, vm_chk 4 q = true := by decide +kernel
theorem vm_o39 : vm_ok vm_m39 := ⟨4, rfl, vm_d39, vm_c39, by decide, rfl⟩
theorem vm_p39 : vm_mf vm_m39 := ⟨by decide +kernel, vm_r36 _ (List.mem_of_getElem? (i := 7) rfl), vm_r2 _ (List.mem_of_getElem? (i := 21) rfl), by decide +kernel, by decide +kernel⟩
set_option maxRecDepth 100000 in
theorem vm_c40 : ∀ q ∈ vm_k40, vm_chk 4 q = true := by decide +kernel
theorem vm_o40 : vm_ok vm_m40 := ⟨4, rfl, vm_d40, vm_c40, by decide, rfl⟩
theorem vm_p40 : vm_mf vm_m40 := ⟨by decide +kernel, vm_r37 _ (List.mem_of_getElem? (i := 2) rfl), vm_r2 _ (List.mem_of_getElem? (i := 21) rfl), by decide +kernel, by decide +kernel⟩
set_option maxRecDepth 100000 in
theorem vm_c41 : ∀ q ∈ vm_k41, vm_chk 4 q = true := by decide +kernel
theorem vm_o41 : vm_ok vm_m41 := ⟨4, rfl, vm_d41, vm_c41, by decide, rfl⟩
theorem vm_p41 : vm_mf vm_m41 := ⟨by decide +kernel, vm_r36 _ (List.mem_of_getElem? (i := 13) rfl), vm_r2 _ (List.mem_of_getElem? (i := 21) rfl), by decide +kernel, by decide +kernel⟩
set_option maxRecDepth 100000 in
theorem vm_c42 : ∀ q ∈ vm_k42, vm_chk 4 q = true := by decide +kernel
theorem vm_o42 : vm_ok vm_m42 := ⟨4, rfl, vm_d42, vm_c42, by decide, rfl⟩
theorem vm_p42 : vm_mf vm_m42 := ⟨by decide +kernel, vm_r36 _ (List.mem_of_getElem? (i := 21) rfl), vm_r2 _ (List.mem_of_getElem? (i := 21) rfl), by decide +kernel, by decide +kernel⟩
set_option maxRecDepth 100000 in
theorem vm_c43 : ∀ q ∈ vm_k43, vm_chk 5 q = true := by decide +kernel
theorem vm_o43 : vm_ok vm_m43 := ⟨5, rfl, vm_d43, vm_c43, by decide, rfl⟩
theorem vm_p43 : vm_mf vm_m43 := ⟨by decide +kernel, vm_r4 _ (List.mem_of_getElem? (i := 16) rfl), vm_r2 _ (List.mem_of_getElem? (i := 9) rfl), by decide +kernel, by decide +kernel⟩
set_option maxRecDepth 100000 in
theorem vm_c44 : ∀ q ∈ vm_k44, vm_chk 5 q = true := by decide +kernel
theorem vm_o44 : vm_ok vm_m44 := ⟨5, rfl, vm_d44, vm_c44, by decide, rfl⟩
theorem vm_p44 : vm_mf vm_m44 := ⟨by decide +kernel, vm_r13 _ (List.mem_of_getElem? (i := 6) rfl), vm_r2 _ (List.mem_of_getElem? (i := 9) rfl), by decide +kernel, by decide +kernel⟩
set_option maxRecDepth 100000 in
theorem vm_c45 : ∀ q ∈ vm_k45, vm_chk 5 q = true := by decide +kernel
theorem vm_o45 : vm_ok vm_m45 := ⟨5, rfl, vm_d45, vm_c45, by decide, rfl⟩
theorem vm_p45 : vm_mf vm_m45 := ⟨by decide +kernel, vm_r13 _ (List.mem_of_getElem? (i := 22) rfl), vm_r2 _ (List.mem_of_getElem? (i := 9) rfl), by decide +kernel, by decide +kernel⟩
set_option maxRecDepth 100000 in
theorem vm_c46 : ∀ q ∈ vm_k46, vm_chk 5 q = true := by decide +kernel
theorem vm_o46 : vm_ok vm_m46 := ⟨5, rfl, vm_d46, vm_c46, by decide, rfl⟩
theorem vm_p46 : vm_mf vm_m46 := ⟨by decide +kernel, vm_r12 _ (List.mem_of_getElem? (i := 15) rfl), vm_r2 _ (List.mem_of_getElem? (i := 9) rfl), by decide +kernel, by decide +kernel⟩
set_option maxRecDepth 100000 in
theorem vm_c47 : ∀ q ∈ vm_k47, vm_chk 5 q = true := by decide +kernel
theorem vm_o47 : vm_ok vm_m47 := ⟨5, rfl, vm_d47, vm_c47, by decide, rfl⟩
theorem vm_p47 : vm_mf vm_m47 := ⟨by decide +kernel, vm_r9 _ (List.mem_of_getElem? (i := 7) rfl), vm_r2 _ (List.mem_of_getElem? (i := 9) rfl), by decide +kernel, by decide +kernel⟩
set_option maxRecDepth 100000 in
theorem vm_c48 : ∀ q ∈ vm_k48, vm_chk 5 q = true := by decide +kernel
theorem vm_o48 : vm_ok vm_m48 := ⟨5, rfl, vm_d48, vm_c48, by decide, rfl⟩
theorem vm_p48 : vm_mf vm_m48 := ⟨by decide +kernel, vm_r10 _ (List.mem_of_getElem? (i := 7) rfl), vm_r2 _ (List.mem_of_getElem? (i := 9) rfl), by decide +kernel, by decide +kernel⟩
set_option maxRecDepth 100000 in
theorem vm_c49 : ∀ q ∈ vm_k49, vm_chk 5 q = true := by decide +kernel
theorem vm_o49 : vm_ok vm_m49 := ⟨5, rfl, vm_d49, vm_c49, by decide, rfl⟩
theorem vm_p49 : vm_mf vm_m49 := ⟨by decide +kernel, vm_r10 _ (List.mem_of_getElem? (i := 19) rfl), vm_r2 _ (List.mem_of_getElem? (i := 9) rfl), by decide +kernel, by decide +kernel⟩
set_option maxRecDepth 100000 in
theorem vm_c50 : ∀ q ∈ vm_k50, vm_chk 5 q = true := by decide +kernel
theorem vm_o50 : vm_ok vm_m50 := ⟨5, rfl, vm_d50, vm_c50, by decide, rfl⟩
theorem vm_p50 : vm_mf vm_m50 := ⟨by decide +kernel, vm_r11 _ (List.mem_of_getElem? (i := 14) rfl), vm_r2 _ (List.mem_of_getElem? (i := 9) rfl), by decide +kernel, by decide +kernel⟩
set_option maxRecDepth 100000 in
theorem vm_c51 : ∀ q ∈ vm_k51, vm_chk 5 q = true := by decide +kernel
theorem vm_o51 : vm_ok vm_m51 := ⟨5, rfl, vm_d51, vm_c51, by decide, rfl⟩
theorem vm_p51 : vm_mf vm_m51 := ⟨by decide +kernel, vm_r11 _ (List.mem_of_getElem? (i := 18) rfl), vm_r2 _ (List.mem_of_getElem? (i := 9) rfl), by decide +kernel, by decide +kernel⟩
set_option maxRecDepth 100000 in
theorem vm_c52 : ∀ q ∈ vm_k52, vm_chk 5 q = true := by decide +kernel
theorem vm_o52 : vm_ok vm_m52 := ⟨5, rfl, vm_d52, vm_c52, by decide, rfl⟩
theorem vm_p52 : vm_mf vm_m52 := ⟨by decide +kernel, vm_r10 _ (List.mem_of_getElem? (i := 11) rfl), vm_r2 _ (List.mem_of_getElem? (i := 9) rfl), by decide +kernel, by decide +kernel⟩
set_option maxRecDepth 100000 in
theorem vm_c53 : ∀ q ∈ vm_k53, vm_chk 5 q = true := by decide +kernel
theorem vm_o53 : vm_ok vm_m53 := ⟨5, rfl, vm_d53, vm_c53, by decide, rfl⟩
theorem vm_p53 : vm_mf vm_m53 := ⟨by decide +kernel, vm_r10 _ (List.mem_of_getElem? (i := 23) rfl), vm_r2 _ (List.mem_of_getElem? (i := 9) rfl), by decide +kernel, by decide +kernel⟩
set_option maxRecDepth 100000 in
theorem vm_c54 : ∀ q ∈ vm_k54, vm_chk 6 q = true := by decide +kernel
theorem vm_o54 : vm_ok vm_m54 := ⟨6, rfl, vm_d54, vm_c54, by decide, rfl⟩
theorem vm_p54 : vm_mf vm_m54 := ⟨by decide +kernel, vm_r3 _ (List.mem_of_getElem? (i := 5) rfl), vm_r1 _ (List.mem_of_getElem? (i := 14) rfl), by decide +kernel, by decide +kernel⟩
set_option maxRecDepth 100000 in
theorem vm_c55 : ∀ q ∈ vm_k55, vm_chk 6 q = true := by decide +kernel
theorem vm_o55 : vm_ok vm_m55 := ⟨6, rfl, vm_d55, vm_c55, by decide, rfl⟩
theorem vm_p55 : vm_mf vm_m55 := ⟨by decide +kernel, vm_r10 _ (List.mem_of_getElem? (i := 3) rfl), vm_r1 _ (List.mem_of_getElem? (i := 14) rfl), by decide +kernel, by decide +kernel⟩
set_option maxRecDepth 100000 in
theorem vm_c56 : ∀ q ∈ vm_k56, vm_chk 6 q = true := by decide +kernel
theorem vm_o56 : vm_ok vm_m56 := ⟨6, rfl, vm_d56, vm_c56, by decide, rfl⟩
theorem vm_p56 : vm_mf vm_m56 := ⟨by decide +kernel, vm_r11 _ (List.mem_of_getElem? (i := 8) rfl), vm_r1 _ (List.mem_of_getElem? (i := 14) rfl), by decide +kernel, by decide +kernel⟩
set_option maxRecDepth 100000 in
theorem vm_c57 : ∀ q ∈ vm_k57, vm_chk 6 q = true := by decide +kernel
theorem vm_o57 : vm_ok vm_m57 := ⟨6, rfl, vm_d57, vm_c57, by decide, rfl⟩
theorem vm_p57 : vm_mf vm_m57 := ⟨by decide +kernel, vm_r9 _ (List.mem_of_getElem? (i := 17) rfl), vm_r1 _ (List.mem_of_getElem? (i := 14) rfl), by decide +kernel, by decide +kernel⟩
set_option maxRecDepth 100000 in
theorem vm_c58 : ∀ q ∈ vm_k58, vm_chk 6 q = true := by decide +kernel
theorem vm_o58 : vm_ok vm_m58 := ⟨6, rfl, vm_d58, vm_c58, by decide, rfl⟩
theorem vm_p58 : vm_mf vm_m58 := ⟨by decide +kernel, vm_r8 _ (List.mem_of_getElem? (i := 22) rfl), vm_r1 _ (List.mem_of_getElem? (i := 14) rfl), by decide +kernel, by decide +kernel⟩
set_option maxRecDepth 100000 in
theorem vm_c59 : ∀ q ∈ vm_k59, vm_chk 6 q = true := by decide +kernel
theorem vm_o59 : vm_ok vm_m59 := ⟨6, rfl, vm_d59, vm_c59, by decide, rfl⟩
theorem vm_p59 : vm_mf vm_m59 := ⟨by decide +kernel, vm_r10 _ (List.mem_of_getElem? (i := 15) rfl), vm_r1 _ (List.mem_of_getElem? (i := 14) rfl), by decide +kernel, by decide +kernel⟩
set_option maxRecDepth 100000 in
theorem vm_c60 : ∀ q ∈ vm_k60, vm_chk 6 q = true := by decide +kernel
theorem vm_o60 : vm_ok vm_m60 := ⟨6, rfl, vm_d60, vm_c60, by decide, rfl⟩
theorem vm_p60 : vm_mf vm_m60 := ⟨by decide +kernel, vm_r24 _ (List.mem_of_getElem? (i := 9) rfl), vm_r1 _ (List.mem_of_getElem? (i := 14) rfl), by decide +kernel, by decide +kernel⟩
set_option maxRecDepth 100000 in
theorem vm_c61 : ∀ q ∈ vm_k61, vm_chk 6 q = true := by decide +kernel
theorem vm_o61 : vm_ok vm_m61 := ⟨6, rfl, vm_d61, vm_c61, by decide, rfl⟩
theorem vm_p61 : vm_mf vm_m61 := ⟨by decide +kernel, vm_r31 _ (List.mem_of_getElem? (i := 21) rfl), vm_r1 _ (List.mem_of_getElem? (i := 14) rfl), by decide +kernel, by decide +kernel⟩
set_option maxRecDepth 100000 in
theorem vm_c62 : ∀ q ∈ vm_k62, vm_chk 6 q = true := by decide +kernel
theorem vm_o62 : vm_ok vm_m62 := ⟨6, rfl, vm_d62, vm_c62, by decide, rfl⟩
theorem vm_p62 : vm_mf vm_m62 := ⟨by decide +kernel, vm_r13 _ (List.mem_of_getElem? (i := 14) rfl), vm_r1 _ (List.mem_of_getElem? (i := 14) rfl), by decide +kernel, by decide +kernel⟩
set_option maxRecDepth 100000 in
theorem vm_c63 : ∀ q ∈ vm_k63, vm_chk 7 q = true := by decide +kernel
theorem vm_o63 : vm_ok vm_m63 := ⟨7, rfl, vm_d63, vm_c63, by decide, rfl⟩
theorem vm_p63 : vm_mf vm_m63 := ⟨by decide +kernel, vm_r4 _ (List.mem_of_getElem? (i := 8) rfl), vm_r2 _ (List.mem_of_getElem? (i := 4) rfl), by decide +kernel, by decide +kernel⟩
set_option maxRecDepth 100000 in
theorem vm_c64 : ∀ q ∈ vm_k64, vm_chk 7 q = true := by decide +kernel
theorem vm_o64 : vm_ok vm_m64 := ⟨7, rfl, vm_d64, vm_c64, by decide, rfl⟩
theorem vm_p64 : vm_mf vm_m64 := ⟨by decide +kernel, vm_r30 _ (List.mem_of_getElem? (i := 10) rfl), vm_r2 _ (List.mem_of_getElem? (i := 4) rfl), by decide +kernel, by decide +kernel⟩
set_option maxRecDepth 100000 in
theorem vm_c65 : ∀ q ∈ vm_k65, vm_chk 7 q = true := by decide +kernel
theorem vm_o65 : vm_ok vm_m65 := ⟨7, rfl, vm_d65, vm_c65, by decide, rfl⟩
theorem vm_p65 : vm_mf vm_m65 := ⟨by decide +kernel, vm_r23 _ (List.mem_of_getElem? (i := 11) rfl), vm_r2 _ (List.mem_of_getElem? (i := 4) rfl), by decide +kernel, by decide +kernel⟩
set_option maxRecDepth 100000 in
theorem vm_c66 : ∀ q ∈ vm_k66, vm_chk 7 q = true := by decide +kernel
theorem vm_o66 : vm_ok vm_m66 := ⟨7, rfl, vm_d66, vm_c66, by decide, rfl⟩
theorem vm_p66 : vm_mf vm_m66 := ⟨by decide +kernel, vm_r14 _ (List.mem_of_getElem? (i := 8) rfl), vm_r2 _ (List.mem_of_getElem? (i := 4) rfl), by decide +kernel, by decide +kernel⟩
set_option maxRecDepth 100000 in
theorem vm_c67 : ∀ q ∈ vm_k67, vm_chk 7 q = true := by decide +kernel
theorem vm_o67 : vm_ok vm_m67 := ⟨7, rfl, vm_d67, vm_c67, by decide, rfl⟩
theorem vm_p67 : vm_mf vm_m67 := ⟨by decide +kernel, vm_r23 _ (List.mem_of_getElem? (i := 6) rfl), vm_r2 _ (List.mem_of_getElem? (i := 4) rfl), by decide +kernel, by decide +kernel⟩
set_option maxRecDepth 100000 in
theorem vm_c68 : ∀ q ∈ vm_k68, vm_chk 7 q = true := by decide +kernel
theorem vm_o68 : vm_ok vm_m68 := ⟨7, rfl, vm_d68, vm_c68, by decide, rfl⟩
theorem vm_p68 : vm_mf vm_m68 := ⟨by decide +kernel, vm_r30 _ (List.mem_of_getElem? (i := 6) rfl), vm_r2 _ (List.mem_of_getElem? (i := 4) rfl), by decide +kernel, by decide +kernel⟩
set_option maxRecDepth 100000 in
theorem vm_c69 : ∀ q ∈ vm_k69, vm_chk 7 q = true := by decide +kernel
theorem vm_o69 : vm_ok vm_m69 := ⟨7, rfl, vm_d69, vm_c69, by decide, rfl⟩
theorem vm_p69 : vm_mf vm_m69 := ⟨by decide +kernel, vm_r23 _ (List.mem_of_getElem? (i := 15) rfl), vm_r2 _ (List.mem_of_getElem? (i := 4) rfl), by decide +kernel, by decide +kernel⟩
set_option maxRecDepth 100000 in
theorem vm_c70 : ∀ q ∈ vm_k70, vm_chk 8 q = true := by decide +kernel
theorem vm_o70 : vm_ok vm_m70 := ⟨8, rfl, vm_d70, vm_c70, by decide, rfl⟩
theorem vm_p70 : vm_mf vm_m70 := ⟨by decide +kernel, vm_r3 _ (List.mem_of_getElem? (i := 14) rfl), vm_r1 _ (List.mem_of_getElem? (i := 19) rfl), by decide +kernel, by decide +kernel⟩
set_option maxRecDepth 100000 in
theorem vm_c71 : ∀ q ∈ vm_k71, vm_chk 8 q = true := by decide +kernel
theorem vm_o71 : vm_ok vm_m71 := ⟨8, rfl, vm_d71, vm_c71, by decide, rfl⟩
theorem vm_p71 : vm_mf vm_m71 := ⟨by decide +kernel, vm_r9 _ (List.mem_of_getElem? (i := 12) rfl), vm_r1 _ (List.mem_of_getElem? (i := 19) rfl), by decide +kernel, by decide +kernel⟩
set_option maxRecDepth 100000 in
theorem vm_c72 : ∀ q ∈ vm_k72, vm_chk 8 q = true := by decide +kernel
theorem vm_o72 : vm_ok vm_m72 := ⟨8, rfl, vm_d72, vm_c72, by decide, rfl⟩
theorem vm_p72 : vm_mf vm_m72 := ⟨by decide +kernel, vm_r13 _ (List.mem_of_getElem? (i := 10) rfl), vm_r1 _ (List.mem_of_getElem? (i := 19) rfl), by decide +kernel, by decide +kernel⟩
set_option maxRecDepth 100000 in
theorem vm_c73 : ∀ q ∈ vm_k73, vm_chk 8 q = true := by decide +kernel
theorem vm_o73 : vm_ok vm_m73 := ⟨8, rfl, vm_d73, vm_c73, by decide, rfl⟩
theorem vm_p73 : vm_mf vm_m73 := ⟨by decide +kernel, vm_r11 _ (List.mem_of_getElem? (i := 4) rfl), vm_r1 _ (List.mem_of_getElem? (i := 19) rfl), by decide +kernel, by decide +kernel⟩
set_option maxRecDepth 100000 in
theorem vm_c74 : ∀ q ∈ vm_k74, vm_chk 8 q = true := by decide +kernel
theorem vm_o74 : vm_ok vm_m74 := ⟨8, rfl, vm_d74, vm_c74, by decide, rfl⟩
theorem vm_p74 : vm_mf vm_m74 := ⟨by decide +kernel, vm_r11 _ (List.mem_of_getElem? (i := 22) rfl), vm_r1 _ (List.mem_of_getElem? (i := 19) rfl), by decide +kernel, by decide +kernel⟩
set_option maxRecDepth 100000 in
theorem vm_c75 : ∀ q ∈ vm_k75, vm_chk 8 q = true := by decide +kernel
theorem vm_o75 : vm_ok vm_m75 := ⟨8, rfl, vm_d75, vm_c75, by decide, rfl⟩
theorem vm_p75 : vm_mf vm_m75 := ⟨by decide +kernel, vm_r44 _ (List.mem_of_getElem? (i := 20) rfl), vm_r1 _ (List.mem_of_getElem? (i := 19) rfl), by decide +kernel, by decide +kernel⟩
set_option maxRecDepth 100000 in
theorem vm_c76 : ∀ q ∈ vm_k76, vm_chk 8 q = true := by decide +kernel
theorem vm_o76 : vm_ok vm_m76 := ⟨8, rfl, vm_d76, vm_c76, by decide, rfl⟩
theorem vm_p76 : vm_mf vm_m76 := ⟨by decide +kernel, vm_r12 _ (List.mem_of_getElem? (i := 10) rfl), vm_r1 _ (List.mem_of_getElem? (i := 19) rfl), by decide +kernel, by decide +kernel⟩
set_option maxRecDepth 100000 in
theorem vm_c77 : ∀ q ∈ vm_k77, vm_chk 8 q = true := by decide +kernel
theorem vm_o77 : vm_ok vm_m77 := ⟨8, rfl, vm_d77, vm_c77, by decide, rfl⟩
theorem vm_p77 : vm_mf vm_m77 := ⟨by decide +kernel, vm_r13 _ (List.mem_of_getElem? (i := 0) rfl), vm_r1 _ (List.mem_of_getElem? (i := 19) rfl), by decide +kernel, by decide +kernel⟩
set_option maxRecDepth 100000 in
theorem vm_c78 : ∀ q ∈ vm_k78, vm_chk 8 q = true := by decide +kernel
theorem vm_o78 : vm_ok vm_m78 := ⟨8, rfl, vm_d78, vm_c78, by decide, rfl⟩
theorem vm_p78 : vm_mf vm_m78 := ⟨by decide +kernel, vm_r19 _ (List.mem_of_getElem? (i := 23) rfl), vm_r1 _ (List.mem_of_getElem? (i := 19) rfl), by decide +kernel, by decide +kernel⟩
set_option maxRecDepth 100000 in
theorem vm_c79 : ∀ q ∈ vm_k79, vm_chk 8 q = true := by decide +kernel
theorem vm_o79 : vm_ok vm_m79 := ⟨8, rfl, vm_d79, vm_c79, by decide, rfl⟩
theorem vm_p79 : vm_mf vm_m79 := ⟨by decide +kernel, vm_r34 _ (List.mem_of_getElem? (i := 11) rfl), vm_r1 _ (List.mem_of_getElem? (i := 19) rfl), by decide +kernel, by decide +kernel⟩
set_option maxRecDepth 100000 in
theorem vm_c80 : ∀ q ∈ vm_k80, vm_chk 8 q = true := by decide +kernel
theorem vm_o80 : vm_ok vm_m80 := ⟨8, rfl, vm_d80, vm_c80, by decide, rfl⟩
theorem vm_p80 : vm_mf vm_m80 := ⟨by decide +kernel, vm_r21 _ (List.mem_of_getElem? (i := 3) rfl), vm_r1 _ (List.mem_of_getElem? (i := 19) rfl), by decide +kernel, by decide +kernel⟩
set_option maxRecDepth 100000 in
theorem vm_c81 : ∀ q ∈ vm_k81, vm_chk 8 q = true := by decide +kernel
theorem vm_o81 : vm_ok vm_m81 := ⟨8, rfl, vm_d81, vm_c81, by decide, rfl⟩
theorem vm_p81 : vm_mf vm_m81 := ⟨by decide +kernel, vm_r34 _ (List.mem_of_getElem? (i := 3) rfl), vm_r1 _ (List.mem_of_getElem? (i := 19) rfl), by decide +kernel, by decide +kernel⟩
set_option maxRecDepth 100000 in
theorem vm_c82 : ∀ q ∈ vm_k82, vm_chk 8 q = true := by decide +kernel
theorem vm_o82 : vm_ok vm_m82 := ⟨8, rfl, vm_d82, vm_c82, by decide, rfl⟩
theorem vm_p82 : vm_mf vm_m82 := ⟨by decide +kernel, vm_r34 _ (List.mem_of_getElem? (i := 7) rfl), vm_r1 _ (List.mem_of_getElem? (i := 19) rfl), by decide +kernel, by decide +kernel⟩
set_option maxRecDepth 100000 in
theorem vm_c83 : ∀ q ∈ vm_k83, vm_chk 8 q = true := by decide +kernel
theorem vm_o83 : vm_ok vm_m83 := ⟨8, rfl, vm_d83, vm_c83, by decide, rfl⟩
theorem vm_p83 : vm_mf vm_m83 := ⟨by decide +kernel, vm_r39 _ (List.mem_of_getElem? (i := 18) rfl), vm_r1 _ (List.mem_of_getElem? (i := 19) rfl), by decide +kernel, by decide +kernel⟩
set_option maxRecDepth 100000 in
theorem vm_c84 : ∀ q ∈ vm_k84, vm_chk 8 q = true := by decide +kernel
theorem vm_o84 : vm_ok vm_m84 := ⟨8, rfl, vm_d84, vm_c84, by decide, rfl⟩
theorem vm_p84 : vm_mf vm_m84 := ⟨by decide +kernel, vm_r39 _ (List.mem_of_getElem? (i := 22) rfl), vm_r1 _ (List.mem_of_getElem? (i := 19) rfl), by decide +kernel, by decide +kernel⟩
set_option maxRecDepth 100000 in
theorem vm_c85 : ∀ q ∈ vm_k85, vm_chk 8 q = true := by decide +kernel
theorem vm_o85 : vm_ok vm_m85 := ⟨8, rfl, vm_d85, vm_c85, by decide, rfl⟩
theorem vm_p85 : vm_mf vm_m85 := ⟨by decide +kernel, vm_r40 _ (List.mem_of_getElem? (i := 10) rfl), vm_r1 _ (List.mem_of_getElem? (i := 19) rfl), by decide +kernel, by decide +kernel⟩
set_option maxRecDepth 100000 in
theorem vm_c86 : ∀ q ∈ vm_k86, vm_chk 8 q = true := by decide +kernel
theorem vm_o86 : vm_ok vm_m86 := ⟨8, rfl, vm_d86, vm_c86, by decide, rfl⟩
theorem vm_p86 : vm_mf vm_m86 := ⟨by decide +kernel, vm_r40 _ (List.mem_of_getElem? (i := 16) rfl), vm_r1 _ (List.mem_of_getElem? (i := 19) rfl), by decide +kernel, by decide +kernel⟩
set_option maxRecDepth 100000 in
theorem vm_c87 : ∀ q ∈ vm_k87, vm_chk 9 q = true := by decide +kernel
theorem vm_o87 : vm_ok vm_m87 := ⟨9, rfl, vm_d87, vm_c87, by decide, rfl⟩
theorem vm_p87 : vm_mf vm_m87 := ⟨by decide +kernel, vm_r5 _ (List.mem_of_getElem? (i := 14) rfl), vm_r2 _ (List.mem_of_getElem? (i := 17) rfl), by decide +kernel, by decide +kernel⟩
set_option maxRecDepth 100000 in
theorem vm_c88 : ∀ q ∈ vm_k88, vm_chk 9 q = true := by decide +kernel
theorem vm_o88 : vm_ok vm_m88 := ⟨9, rfl, vm_d88, vm_c88, by decide, rfl⟩
theorem vm_p88 : vm_mf vm_m88 := ⟨by decide +kernel, vm_r33 _ (List.mem_of_getElem? (i := 20) rfl), vm_r2 _ (List.mem_of_getElem? (i := 17) rfl), by decide +kernel, by decide +kernel⟩
set_option maxRecDepth 100000 in
theorem vm_c89 : ∀ q ∈ vm_k89, vm_chk 9 q = true := by decide +kernel
theorem vm_o89 : vm_ok vm_m89 := ⟨9, rfl, vm_d89, vm_c89, by decide, rfl⟩
theorem vm_p89 : vm_mf vm_m89 := ⟨by decide +kernel, vm_r35 _ (List.mem_of_getElem? (i := 7) rfl), vm_r2 _ (List.mem_of_getElem? (i := 17) rfl), by decide +kernel, by decide +kernel⟩
set_option maxRecDepth 100000 in
theorem vm_c90 : ∀ q ∈ vm_k90, vm_chk 9 q = true := by decide +kernel
theorem vm_o90 : vm_ok vm_m90 := ⟨9, rfl, vm_d90, vm_c90, by decide, rfl⟩
theorem vm_p90 : vm_mf vm_m90 := ⟨by decide +kernel, vm_r34 _ (List.mem_of_getElem? (i := 19) rfl), vm_r2 _ (List.mem_of_getElem? (i := 17) rfl), by decide +kernel, by decide +kernel⟩
set_option maxRecDepth 100000 in
theorem vm_c91 : ∀ q ∈ vm_k91, vm_chk 9 q = true := by decide +kernel
theorem vm_o91 : vm_ok vm_m91 := ⟨9, rfl, vm_d91, vm_c91, by decide, rfl⟩
theorem vm_p91 : vm_mf vm_m91 := ⟨by decide +kernel, vm_r34 _ (List.mem_of_getElem? (i := 23) rfl), vm_r2 _ (List.mem_of_getElem? (i := 17) rfl), by decide +kernel, by decide +kernel⟩
set_option maxRecDepth 100000 in
theorem vm_c92 : ∀ q ∈ vm_k92, vm_chk 10 q = true := by decide +kernel
theorem vm_o92 : vm_ok vm_m92 := ⟨10, rfl, vm_d92, vm_c92, by decide, rfl⟩
theorem vm_p92 : vm_mf vm_m92 := ⟨by decide +kernel, vm_r1 _ (List.mem_of_getElem? (i := 8) rfl), vm_r1 _ (List.mem_of_getElem? (i := 2) rfl), by decide +kernel, by decide +kernel⟩
set_option maxRecDepth 100000 in
theorem vm_c93 : ∀ q ∈ vm_k93, vm_chk 10 q = true := by decide +kernel
theorem vm_o93 : vm_ok vm_m93 := ⟨10, rfl, vm_d93, vm_c93, by decide, rfl⟩
theorem vm_p93 : vm_mf vm_m93 := ⟨by decide +kernel, vm_r15 _ (List.mem_of_getElem? (i := 23) rfl), vm_r1 _ (List.mem_of_getElem? (i := 2) rfl), by decide +kernel, by decide +kernel⟩
set_option maxRecDepth 100000 in
theorem vm_c94 : ∀ q ∈ vm_k94, vm_chk 10 q = true := by decide +kernel
theorem vm_o94 : vm_ok vm_m94 := ⟨10, rfl, vm_d94, vm_c94, by decide, rfl⟩
theorem vm_p94 : vm_mf vm_m94 := ⟨by decide +kernel, vm_r16 _ (List.mem_of_getElem? (i := 16) rfl), vm_r1 _ (List.mem_of_getElem? (i := 2) rfl), by decide +kernel, by decide +kernel⟩
set_option maxRecDepth 100000 in
theorem vm_c95 : ∀ q ∈ vm_k95, vm_chk 10 q = true := by decide +kernel
theorem vm_o95 : vm_ok vm_m95 := ⟨10, rfl, vm_d95, vm_c95, by decide, rfl⟩
theorem vm_p95 : vm_mf vm_m95 := ⟨by decide +kernel, vm_r17 _ (List.mem_of_getElem? (i := 0) rfl), vm_r1 _ (List.mem_of_getElem? (i := 2) rfl), by decide +kernel, by decide +kernel⟩
set_option maxRecDepth 100000 in
theorem vm_c96 : ∀ q ∈ vm_k96, vm_chk 10 q = true := by decide +kernel
theorem vm_o96 : vm_ok vm_m96 := ⟨10, rfl, vm_d96, vm_c96, by decide, rfl⟩
theorem vm_p96 : vm_mf vm_m96 := ⟨by decide +kernel, vm_r18 _ (List.mem_of_getElem? (i := 23) rfl), vm_r1 _ (List.mem_of_getElem? (i := 2) rfl), by decide +kernel, by decide +kernel⟩
set_option maxRecDepth 100000 in
theorem vm_c97 : ∀ q ∈ vm_k97, vm_chk 10 q = true := by decide +kernel
theorem vm_o97 : vm_ok vm_m97 := ⟨10, rfl, vm_d97, vm_c97, by decide, rfl⟩
theorem vm_p97 : vm_mf vm_m97 := ⟨by decide +kernel, vm_r19 _ (List.mem_of_getElem? (i := 15) rfl), vm_r1 _ (List.mem_of_getElem? (i := 2) rfl), by decide +kernel, by decide +kernel⟩
set_option maxRecDepth 100000 in
theorem vm_c98 : ∀ q ∈ vm_k98, vm_chk 10 q = true := by decide +kernel
theorem vm_o98 : vm_ok vm_m98 := ⟨10, rfl, vm_d98, vm_c98, by decide, rfl⟩
theorem vm_p98 : vm_mf vm_m98 := ⟨by decide +kernel, vm_r20 _ (List.mem_of_getElem? (i := 19) rfl), vm_r1 _ (List.mem_of_getElem? (i := 2) rfl), by decide +kernel, by decide +kernel⟩
set_option maxRecDepth 100000 in
theorem vm_c99 : ∀ q ∈ vm_k99, vm_chk 10 q = true := by decide +kernel
theorem vm_o99 : vm_ok vm_m99 := ⟨10, rfl, vm_d99, vm_c99, by decide, rfl⟩
theorem vm_p99 : vm_mf vm_m99 := ⟨by decide +kernel, vm_r21 _ (List.mem_of_getElem? (i := 20) rfl), vm_r1 _ (List.mem_of_getElem? (i := 2) rfl), by decide +kernel, by decide +kernel⟩
set_option maxRecDepth 100000 in
theorem vm_c100 : ∀ q ∈ vm_k100, vm_chk 10 q = true := by decide +kernel
theorem vm_o100 : vm_ok vm_m100 := ⟨10, rfl, vm_d100, vm_c100, by decide, rfl⟩
theorem vm_p100 : vm_mf vm_m100 := ⟨by decide +kernel, vm_r22 _ (List.mem_of_getElem? (i := 17) rfl), vm_r1 _ (List.mem_of_getElem? (i := 2) rfl), by decide +kernel, by decide +kernel⟩
set_option maxRecDepth 100000 in
theorem vm_c101 : ∀ q ∈ vm_k101, vm_chk 10 q = true := by decide +kernel
theorem vm_o101 : vm_ok vm_m101 := ⟨10, rfl, vm_d101, vm_c101, by decide, rfl⟩
theorem vm_p101 : vm_mf vm_m101 := ⟨by decide +kernel, vm_r26 _ (List.mem_of_getElem? (i := 2) rfl), vm_r1 _ (List.mem_of_getElem? (i := 2) rfl), by decide +kernel, by decide +kernel⟩
set_option maxRecDepth 100000 in
theorem vm_c102 : ∀ q ∈ vm_k102, vm_chk 10 q = true := by decide +kernel
theorem vm_o102 : vm_ok vm_m102 := ⟨10, rfl, vm_d102, vm_c102, by decide, rfl⟩
theorem vm_p102 : vm_mf vm_m102 := ⟨by decide +kernel, vm_r27 _ (List.mem_of_getElem? (i := 10) rfl), vm_r1 _ (List.mem_of_getElem? (i := 2) rfl), by decide +kernel, by decide +kernel⟩
set_option maxRecDepth 100000 in
theorem vm_c103 : ∀ q ∈ vm_k103, vm_chk 10 q = true := by decide +kernel
theorem vm_o103 : vm_ok vm_m103 := ⟨10, rfl, vm_d103, vm_c103, by decide, rfl⟩
theorem vm_p103 : vm_mf vm_m103 := ⟨by decide +kernel, vm_r28 _ (List.mem_of_getElem? (i := 12) rfl), vm_r1 _ (List.mem_of_getElem? (i := 2) rfl), by decide +kernel, by decide +kernel⟩
set_option maxRecDepth 100000 in
theorem vm_c104 : ∀ q ∈ vm_k104, vm_chk 10 q = true := by decide +kernel
theorem vm_o104 : vm_ok vm_m104 := ⟨10, rfl, vm_d104, vm_c104, by decide, rfl⟩
theorem vm_p104 : vm_mf vm_m104 := ⟨by decide +kernel, vm_r29 _ (List.mem_of_getElem? (i := 6) rfl), vm_r1 _ (List.mem_of_getElem? (i := 2) rfl), by decide +kernel, by decide +kernel⟩
set_option maxRecDepth 100000 in
theorem vm_c105 : ∀ q ∈ vm_k105, vm_chk 10 q = true := by decide +kernel
theorem vm_o105 : vm_ok vm_m105 := ⟨10, rfl, vm_d105, vm_c105, by decide, rfl⟩
theorem vm_p105 : vm_mf vm_m105 := ⟨by decide +kernel, vm_r30 _ (List.mem_of_getElem? (i := 2) rfl), vm_r1 _ (List.mem_of_getElem? (i := 2) rfl), by decide +kernel, by decide +kernel⟩
set_option maxRecDepth 100000 in
theorem vm_c106 : ∀ q ∈ vm_k106, vm_chk 10 q = true := by decide +kernel
theorem vm_o106 : vm_ok vm_m106 := ⟨10, rfl, vm_d106, vm_c106, by decide, rfl⟩
theorem vm_p106 : vm_mf vm_m106 := ⟨by decide +kernel, vm_r30 _ (List.mem_of_getElem? (i := 18) rfl), vm_r1 _ (List.mem_of_getElem? (i := 2) rfl), by decide +kernel, by decide +kernel⟩
set_option maxRecDepth 100000 in
theorem vm_c107 : ∀ q ∈ vm_k107, vm_chk 10 q = true := by decide +kernel
theorem vm_o107 : vm_ok vm_m107 := ⟨10, rfl, vm_d107, vm_c107, by decide, rfl⟩
theorem vm_p107 : vm_mf vm_m107 := ⟨by decide +kernel, vm_r31 _ (List.mem_of_getElem? (i := 6) rfl), vm_r1 _ (List.mem_of_getElem? (i := 2) rfl), by decide +kernel, by decide +kernel⟩
set_option maxRecDepth 100000 in
theorem vm_c108 : ∀ q ∈ vm_k108, vm_chk 10 q = true := by decide +kernel
theorem vm_o108 : vm_ok vm_m108 := ⟨10, rfl, vm_d108, vm_c108, by decide, rfl⟩
theorem vm_p108 : vm_mf vm_m108 := ⟨by decide +kernel, vm_r33 _ (List.mem_of_getElem? (i := 16) rfl), vm_r1 _ (List.mem_of_getElem? (i := 2) rfl), by decide +kernel, by decide +kernel⟩
set_option maxRecDepth 100000 in
theorem vm_c109 : ∀ q ∈ vm_k109, vm_chk 10 q = true := by decide +kernel
theorem vm_o109 : vm_ok vm_m109 := ⟨10, rfl, vm_d109, vm_c109, by decide, rfl⟩
theorem vm_p109 : vm_mf vm_m109 := ⟨by decide +kernel, vm_r36 _ (List.mem_of_getElem? (i := 3) rfl), vm_r1 _ (List.mem_of_getElem? (i := 2) rfl), by decide +kernel, by decide +kernel⟩
set_option maxRecDepth 100000 in
theorem vm_c110 : ∀ q ∈ vm_k110, vm_chk 10 q = true := by decide +kernel
theorem vm_o110 : vm_ok vm_m110 := ⟨10, rfl, vm_d110, vm_c110, by decide, rfl⟩
theorem vm_p110 : vm_mf vm_m110 := ⟨by decide +kernel, vm_r37 _ (List.mem_of_getElem? (i := 18) rfl), vm_r1 _ (List.mem_of_getElem? (i := 2) rfl), by decide +kernel, by decide +kernel⟩
set_option maxRecDepth 100000 in
theorem vm_c111 : ∀ q ∈ vm_k111, vm_chk 10 q = true := by decide +kernel
theorem vm_o111 : vm_ok vm_m111 := ⟨10, rfl, vm_d111, vm_c111, by decide, rfl⟩
theorem vm_p111 : vm_mf vm_m111 := ⟨by decide +kernel, vm_r38 _ (List.mem_of_getElem? (i := 6) rfl), vm_r1 _ (List.mem_of_getElem? (i := 2) rfl), by decide +kernel, by decide +kernel⟩
set_option maxRecDepth 100000 in
theorem vm_c112 : ∀ q ∈ vm_k112, vm_chk 10 q = true := by decide +kernel
theorem vm_o112 : vm_ok vm_m112 := ⟨10, rfl, vm_d112, vm_c112, by decide, rfl⟩
theorem vm_p112 : vm_mf vm_m112 := ⟨by decide +kernel, vm_r38 _ (List.mem_of_getElem? (i := 22) rfl), vm_r1 _ (List.mem_of_getElem? (i := 2) rfl), by decide +kernel, by decide +kernel⟩
set_option maxRecDepth 100000 in
theorem vm_c113 : ∀ q ∈ vm_k113, vm_chk 10 q = true := by decide +kernel
theorem vm_o113 : vm_ok vm_m113 := ⟨10, rfl, vm_d113, vm_c113, by decide, rfl⟩
theorem vm_p113 : vm_mf vm_m113 := ⟨by decide +kernel, vm_r39 _ (List.mem_of_getElem? (i := 6) rfl), vm_r1 _ (List.mem_of_getElem? (i := 2) rfl), by decide +kernel, by decide +kernel⟩
set_option maxRecDepth 100000 in
theorem vm_c114 : ∀ q ∈ vm_k114, vm_chk 10 q = true := by decide +kernel
theorem vm_o114 : vm_ok vm_m114 := ⟨10, rfl, vm_d114, vm_c114, by decide, rfl⟩
theorem vm_p114 : vm_mf vm_m114 := ⟨by decide +kernel, vm_r39 _ (List.mem_of_getElem? (i := 14) rfl), vm_r1 _ (List.mem_of_getElem? (i := 2) rfl), by decide +kernel, by decide +kernel⟩
set_option maxRecDepth 100000 in
theorem vm_c115 : ∀ q ∈ vm_k115, vm_chk 10 q = true := by decide +kernel
theorem vm_o115 : vm_ok vm_m115 := ⟨10, rfl, vm_d115, vm_c115, by decide, rfl⟩
theorem vm_p115 : vm_mf vm_m115 := ⟨by decide +kernel, vm_r40 _ (List.mem_of_getElem? (i := 6) rfl), vm_r1 _ (List.mem_of_getElem? (i := 2) rfl), by decide +kernel, by decide +kernel⟩
set_option maxRecDepth 100000 in
theorem vm_c116 : ∀ q ∈ vm_k116, vm_chk 10 q = true := by decide +kernel
theorem vm_o116 : vm_ok vm_m116 := ⟨10, rfl, vm_d116, vm_c116, by decide, rfl⟩
theorem vm_p116 : vm_mf vm_m116 := ⟨by decide +kernel, vm_r41 _ (List.mem_of_getElem? (i := 1) rfl), vm_r1 _ (List.mem_of_getElem? (i := 2) rfl), by decide +kernel, by decide +kernel⟩
set_option maxRecDepth 100000 in
theorem vm_c117 : ∀ q ∈ vm_k117, vm_chk 10 q = true := by decide +kernel
theorem vm_o117 : vm_ok vm_m117 := ⟨10, rfl, vm_d117, vm_c117, by decide, rfl⟩
theorem vm_p117 : vm_mf vm_m117 := ⟨by decide +kernel, vm_r42 _ (List.mem_of_getElem? (i := 12) rfl), vm_r1 _ (List.mem_of_getElem? (i := 2) rfl), by decide +kernel, by decide +kernel⟩
set_option maxRecDepth 100000 in
theorem vm_c118 : ∀ q ∈ vm_k118, vm_chk 10 q = true := by decide +kernel
theorem vm_o118 : vm_ok vm_m118 := ⟨10, rfl, vm_d118, vm_c118, by decide, rfl⟩
theorem vm_p118 : vm_mf vm_m118 := ⟨by decide +kernel, vm_r43 _ (List.mem_of_getElem? (i := 23) rfl), vm_r1 _ (List.mem_of_getElem? (i := 2) rfl), by decide +kernel, by decide +kernel⟩
set_option maxRecDepth 100000 in
theorem vm_c119 : ∀ q ∈ vm_k119, vm_chk 10 q = true := by decide +kernel
theorem vm_o119 : vm_ok vm_m119 := ⟨10, rfl, vm_d119, vm_c119, by decide, rfl⟩
theorem vm_p119 : vm_mf vm_m119 := ⟨by decide +kernel, vm_r44 _ (List.mem_of_getElem? (i := 8) rfl), vm_r1 _ (List.mem_of_getElem? (i := 2) rfl), by decide +kernel, by decide +kernel⟩
set_option maxRecDepth 100000 in
theorem vm_c120 : ∀ q ∈ vm_k120, vm_chk 10 q = true := by decide +kernel
theorem vm_o120 : vm_ok vm_m120 := ⟨10, rfl, vm_d120, vm_c120, by decide, rfl⟩
theorem vm_p120 : vm_mf vm_m120 := ⟨by decide +kernel, vm_r44 _ (List.mem_of_getElem? (i := 16) rfl), vm_r1 _ (List.mem_of_getElem? (i := 2) rfl), by decide +kernel, by decide +kernel⟩
set_option maxRecDepth 100000 in
theorem vm_c121 : ∀ q ∈ vm_k121, vm_chk 10 q = true := by decide +kernel
theorem vm_o121 : vm_ok vm_m121 := ⟨10, rfl, vm_d121, vm_c121, by decide, rfl⟩
theorem vm_p121 : vm_mf vm_m121 := ⟨by decide +kernel, vm_r9 _ (List.mem_of_getElem? (i := 3) rfl), vm_r1 _ (List.mem_of_getElem? (i := 2) rfl), by decide +kernel, by decide +kernel⟩
set_option maxRecDepth 100000 in
theorem vm_c122 : ∀ q ∈ vm_k122, vm_chk 10 q = true := by decide +kernel
theorem vm_o122 : vm_ok vm_m122 := ⟨10, rfl, vm_d122, vm_c122, by decide, rfl⟩
theorem vm_p122 : vm_mf vm_m122 := ⟨by decide +kernel, vm_r38 _ (List.mem_of_getElem? (i := 10) rfl), vm_r1 _ (List.mem_of_getElem? (i := 2) rfl), by decide +kernel, by decide +kernel⟩
set_option maxRecDepth 100000 in
theorem vm_c123 : ∀ q ∈ vm_k123, vm_chk 10 q = true := by decide +kernel
theorem vm_o123 : vm_ok vm_m123 := ⟨10, rfl, vm_d123, vm_c123, by decide, rfl⟩
theorem vm_p123 : vm_mf vm_m123 := ⟨by decide +kernel, vm_r27 _ (List.mem_of_getElem? (i := 14) rfl), vm_r1 _ (List.mem_of_getElem? (i := 2) rfl), by decide +kernel, by decide +kernel⟩
set_option maxRecDepth 100000 in
theorem vm_c124 : ∀ q ∈ vm_k124, vm_chk 10 q = true := by decide +kernel
theorem vm_o124 : vm_ok vm_m124 := ⟨10, rfl, vm_d124, vm_c124, by decide, rfl⟩
theorem vm_p124 : vm_mf vm_m124 := ⟨by decide +kernel, vm_r42 _ (List.mem_of_getElem? (i := 15) rfl), vm_r1 _ (List.mem_of_getElem? (i := 2) rfl), by decide +kernel, by decide +kernel⟩
set_option maxRecDepth 100000 in
theorem vm_c125 : ∀ q ∈ vm_k125, vm_chk 10 q = true := by decide +kernel
theorem vm_o125 : vm_ok vm_m125 := ⟨10, rfl, vm_d125, vm_c125, by decide, rfl⟩
theorem vm_p125 : vm_mf vm_m125 := ⟨by decide +kernel, vm_r19 _ (List.mem_of_getElem? (i := 19) rfl), vm_r1 _ (List.mem_of_getElem? (i := 2) rfl), by decide +kernel, by decide +kernel⟩
set_option maxRecDepth 100000 in
theorem vm_c126 : ∀ q ∈ vm_k126, vm_chk 10 q = true := by decide +kernel
theorem vm_o126 : vm_ok vm_m126 := ⟨10, rfl, vm_d126, vm_c126, by decide, rfl⟩
theorem vm_p126 : vm_mf vm_m126 := ⟨by decide +kernel, vm_r12 _ (List.mem_of_getElem? (i := 0) rfl), vm_r1 _ (List.mem_of_getElem? (i := 2) rfl), by decide +kernel, by decide +kernel⟩
set_option maxRecDepth 100000 in
theorem vm_c127 : ∀ q ∈ vm_k127, vm_chk 11 q = true := by decide +kernel
theorem vm_o127 : vm_ok vm_m127 := ⟨11, rfl, vm_d127, vm_c127, by decide, rfl⟩
theorem vm_p127 : vm_mf vm_m127 := ⟨by decide +kernel, vm_r14 _ (List.mem_of_getElem? (i := 12) rfl), vm_r1 _ (List.mem_of_getElem? (i := 5) rfl), by decide +kernel, by decide +kernel⟩
set_option maxRecDepth 100000 in
theorem vm_c128 : ∀ q ∈ vm_k128, vm_chk 11 q = true := by decide +kernel
theorem vm_o128 : vm_ok vm_m128 := ⟨11, rfl, vm_d128, vm_c128, by decide, rfl⟩
theorem vm_p128 : vm_mf vm_m128 := ⟨by decide +kernel, vm_r16 _ (List.mem_of_getElem? (i := 12) rfl), vm_r1 _ (List.mem_of_getElem? (i := 5) rfl), by decide +kernel, by decide +kernel⟩
set_option maxRecDepth 100000 in
theorem vm_c129 : ∀ q ∈ vm_k129, vm_chk 11 q = true := by decide +kernel
theorem vm_o129 : vm_ok vm_m129 := ⟨11, rfl, vm_d129, vm_c129, by decide, rfl⟩
theorem vm_p129 : vm_mf vm_m129 := ⟨by decide +kernel, vm_r38 _ (List.mem_of_getElem? (i := 2) rfl), vm_r1 _ (List.mem_of_getElem? (i := 5) rfl), by decide +kernel, by decide +kernel⟩
set_option maxRecDepth 100000 in
theorem vm_c130 : ∀ q ∈ vm_k130, vm_chk 11 q = true := by decide +kernel
theorem vm_o130 : vm_ok vm_m130 := ⟨11, rfl, vm_d130, vm_c130, by decide, rfl⟩
theorem vm_p130 : vm_mf vm_m130 := ⟨by decide +kernel, vm_r19 _ (List.mem_of_getElem? (i := 11) rfl), vm_r1 _ (List.mem_of_getElem? (i := 5) rfl), by decide +kernel, by decide +kernel⟩
set_option maxRecDepth 100000 in
theorem vm_c131 : ∀ q ∈ vm_k131, vm_chk 11 q = true := by decide +kernel
theorem vm_o131 : vm_ok vm_m131 := ⟨11, rfl, vm_d131, vm_c131, by decide, rfl⟩
theorem vm_p131 : vm_mf vm_m131 := ⟨by decide +kernel, vm_r15 _ (List.mem_of_getElem? (i := 9) rfl), vm_r1 _ (List.mem_of_getElem? (i := 5) rfl), by decide +kernel, by decide +kernel⟩
set_option maxRecDepth 100000 in
theorem vm_c132 : ∀ q ∈ vm_k132, vm_chk 11 q = true := by decide +kernel
theorem vm_o132 : vm_ok vm_m132 := ⟨11, rfl, vm_d132, vm_c132, by decide, rfl⟩
theorem vm_p132 : vm_mf vm_m132 := ⟨by decide +kernel, vm_r15 _ (List.mem_of_getElem? (i := 12) rfl), vm_r1 _ (List.mem_of_getElem? (i := 5) rfl), by decide +kernel, by decide +kernel⟩
set_option maxRecDepth 100000 in
theorem vm_c133 : ∀ q ∈ vm_k133, vm_chk 11 q = true := by decide +kernel
theorem vm_o133 : vm_ok vm_m133 := ⟨11, rfl, vm_d133, vm_c133, by decide, rfl⟩
theorem vm_p133 : vm_mf vm_m133 := ⟨by decide +kernel, vm_r15 _ (List.mem_of_getElem? (i := 16) rfl), vm_r1 _ (List.mem_of_getElem? (i := 5) rfl), by decide +kernel, by decide +kernel⟩
set_option maxRecDepth 100000 in
theorem vm_c134 : ∀ q ∈ vm_k134, vm_chk 11 q = true := by decide +kernel
theorem vm_o134 : vm_ok vm_m134 := ⟨11, rfl, vm_d134, vm_c134, by decide, rfl⟩
theorem vm_p134 : vm_mf vm_m134 := ⟨by decide +kernel, vm_r16 _ (List.mem_of_getElem? (i := 6) rfl), vm_r1 _ (List.mem_of_getElem? (i := 5) rfl), by decide +kernel, by decide +kernel⟩
set_option maxRecDepth 100000 in
theorem vm_c135 : ∀ q ∈ vm_k135, vm_chk 11 q = true := by decide +kernel
theorem vm_o135 : vm_ok vm_m135 := ⟨11, rfl, vm_d135, vm_c135, by decide, rfl⟩
theorem vm_p135 : vm_mf vm_m135 := ⟨by decide +kernel, vm_r16 _ (List.mem_of_getElem? (i := 20) rfl), vm_r1 _ (List.mem_of_getElem? (i := 5) rfl), by decide +kernel, by decide +kernel⟩
set_option maxRecDepth 100000 in
theorem vm_c136 : ∀ q ∈ vm_k136, vm_chk 11 q = true := by decide +kernel
theorem vm_o136 : vm_ok vm_m136 := ⟨11, rfl, vm_d136, vm_c136, by decide, rfl⟩
theorem vm_p136 : vm_mf vm_m136 := ⟨by decide +kernel, vm_r17 _ (List.mem_of_getElem? (i := 17) rfl), vm_r1 _ (List.mem_of_getElem? (i := 5) rfl), by decide +kernel, by decide +kernel⟩
set_option maxRecDepth 100000 in
theorem vm_c137 : ∀ q ∈ vm_k137, vm_chk 11 q = true := by decide +kernel
theorem vm_o137 : vm_ok vm_m137 := ⟨11, rfl, vm_d137, vm_c137, by decide, rfl⟩
theorem vm_p137 : vm_mf vm_m137 := ⟨by decide +kernel, vm_r18 _ (List.mem_of_getElem? (i := 19) rfl), vm_r1 _ (List.mem_of_getElem? (i := 5) rfl), by decide +kernel, by decide +kernel⟩
set_option maxRecDepth 100000 in
theorem vm_c138 : ∀ q ∈ vm_k138, vm_chk 11 q = true := by decide +kernel
theorem vm_o138 : vm_ok vm_m138 := ⟨11, rfl, vm_d138, vm_c138, by decide, rfl⟩
theorem vm_p138 : vm_mf vm_m138 := ⟨by decide +kernel, vm_r18 _ (List.mem_of_getElem? (i := 0) rfl), vm_r1 _ (List.mem_of_getElem? (i := 5) rfl), by decide +kernel, by decide +kernel⟩
set_option maxRecDepth 100000 in
theorem vm_c139 : ∀ q ∈ vm_k139, vm_chk 11 q = true := by decide +kernel
theorem vm_o139 : vm_ok vm_m139 := ⟨11, rfl, vm_d139, vm_c139, by decide, rfl⟩
theorem vm_p139 : vm_mf vm_m139 := ⟨by decide +kernel, vm_r18 _ (List.mem_of_getElem? (i := 11) rfl), vm_r1 _ (List.mem_of_getElem? (i := 5) rfl), by decide +kernel, by decide +kernel⟩
set_option maxRecDepth 100000 in
theorem vm_c140 : ∀ q ∈ vm_k140, vm_chk 11 q = true := by decide +kernel
theorem vm_o140 : vm_ok vm_m140 := ⟨11, rfl, vm_d140, vm_c140, by decide, rfl⟩
theorem vm_p140 : vm_mf vm_m140 := ⟨by decide +kernel, vm_r17 _ (List.mem_of_getElem? (i := 21) rfl), vm_r1 _ (List.mem_of_getElem? (i := 5) rfl), by decide +kernel, by decide +kernel⟩
set_option maxRecDepth 100000 in
theorem vm_c141 : ∀ q ∈ vm_k141, vm_chk 11 q = true := by decide +kernel
theorem vm_o141 : vm_ok vm_m141 := ⟨11, rfl, vm_d141, vm_c141, by decide, rfl⟩
theorem vm_p141 : vm_mf vm_m141 := ⟨by decide +kernel, vm_r18 _ (List.mem_of_getElem? (i := 6) rfl), vm_r1 _ (List.mem_of_getElem? (i := 5) rfl), by decide +kernel, by decide +kernel⟩
set_option maxRecDepth 100000 in
theorem vm_c142 : ∀ q ∈ vm_k142, vm_chk 11 q = true := by decide +kernel
theorem vm_o142 : vm_ok vm_m142 := ⟨11, rfl, vm_d142, vm_c142, by decide, rfl⟩
theorem vm_p142 : vm_mf vm_m142 := ⟨by decide +kernel, vm_r18 _ (List.mem_of_getElem? (i := 15) rfl), vm_r1 _ (List.mem_of_getElem? (i := 5) rfl), by decide +kernel, by decide +kernel⟩
set_option maxRecDepth 100000 in
theorem vm_c143 : ∀ q ∈ vm_k143, vm_chk 11 q = true := by decide +kernel
theorem vm_o143 : vm_ok vm_m143 := ⟨11, rfl, vm_d143, vm_c143, by decide, rfl⟩
theorem vm_p143 : vm_mf vm_m143 := ⟨by decide +kernel, vm_r17 _ (List.mem_of_getElem? (i := 13) rfl), vm_r1 _ (List.mem_of_getElem? (i := 5) rfl), by decide +kernel, by decide +kernel⟩
set_option maxRecDepth 100000 in
theorem vm_c144 : ∀ q ∈ vm_k144, vm_chk 11 q = true := by decide +kernel
theorem vm_o144 : vm_ok vm_m144 := ⟨11, rfl, vm_d144, vm_c144, by decide, rfl⟩
theorem vm_p144 : vm_mf vm_m144 := ⟨by decide +kernel, vm_r17 _ (List.mem_of_getElem? (i := 8) rfl), vm_r1 _ (List.mem_of_getElem? (i := 5) rfl), by decide +kernel, by decide +kernel⟩
set_option maxRecDepth 100000 in
theorem vm_c145 : ∀ q ∈ vm_k145, vm_chk 11 q = true := by decide +kernel
theorem vm_o145 : vm_ok vm_m145 := ⟨11, rfl, vm_d145, vm_c145, by decide, rfl⟩
theorem vm_p145 : vm_mf vm_m145 := ⟨by decide +kernel, vm_r17 _ (List.mem_of_getElem? (i := 4) rfl), vm_r1 _ (List.mem_of_getElem? (i := 5) rfl), by decide +kernel, by decide +kernel⟩
set_option maxRecDepth 100000 in
theorem vm_c146 : ∀ q ∈ vm_k146, vm_chk 11 q = true := by decide +kernel
theorem vm_o146 : vm_ok vm_m146 := ⟨11, rfl, vm_d146, vm_c146, by decide, rfl⟩
theorem vm_p146 : vm_mf vm_m146 := ⟨by decide +kernel, vm_r19 _ (List.mem_of_getElem? (i := 8) rfl), vm_r1 _ (List.mem_of_getElem? (i := 5) rfl), by decide +kernel, by decide +kernel⟩
set_option maxRecDepth 100000 in
theorem vm_c147 : ∀ q ∈ vm_k147, vm_chk 11 q = true := by decide +kernel
theorem vm_o147 : vm_ok vm_m147 := ⟨11, rfl, vm_d147, vm_c147, by decide, rfl⟩
theorem vm_p147 : vm_mf vm_m147 := ⟨by decide +kernel, vm_r19 _ (List.mem_of_getElem? (i := 4) rfl), vm_r1 _ (List.mem_of_getElem? (i := 5) rfl), by decide +kernel, by decide +kernel⟩
set_option maxRecDepth 100000 in
theorem vm_c148 : ∀ q ∈ vm_k148, vm_chk 11 q = true := by decide +kernel
theorem vm_o148 : vm_ok vm_m148 := ⟨11, rfl, vm_d148, vm_c148, by decide, rfl⟩
theorem vm_p148 : vm_mf vm_m148 := ⟨by decide +kernel, vm_r20 _ (List.mem_of_getElem? (i := 7) rfl), vm_r1 _ (List.mem_of_getElem? (i := 5) rfl), by decide +kernel, by decide +kernel⟩
set_option maxRecDepth 100000 in
theorem vm_c149 : ∀ q ∈ vm_k149, vm_chk 11 q = true := by decide +kernel
theorem vm_o149 : vm_ok vm_m149 := ⟨11, rfl, vm_d149, vm_c149, by decide, rfl⟩
theorem vm_p149 : vm_mf vm_m149 := ⟨by decide +kernel, vm_r20 _ (List.mem_of_getElem? (i := 10) rfl), vm_r1 _ (List.mem_of_getElem? (i := 5) rfl), by decide +kernel, by decide +kernel⟩
set_option maxRecDepth 100000 in
theorem vm_c150 : ∀ q ∈ vm_k150, vm_chk 11 q = true := by decide +kernel
theorem vm_o150 : vm_ok vm_m150 := ⟨11, rfl, vm_d150, vm_c150, by decide, rfl⟩
theorem vm_p150 : vm_mf vm_m150 := ⟨by decide +kernel, vm_r22 _ (List.mem_of_getElem? (i := 13) rfl), vm_r1 _ (List.mem_of_getElem? (i := 5) rfl), by decide +kernel, by decide +kernel⟩
set_option maxRecDepth 100000 in
theorem vm_c151 : ∀ q ∈ vm_k151, vm_chk 11 q = true := by decide +kernel
theorem vm_o151 : vm_ok vm_m151 := ⟨11, rfl, vm_d151, vm_c151, by decide, rfl⟩
theorem vm_p151 : vm_mf vm_m151 := ⟨by decide +kernel, vm_r20 _ (List.mem_of_getElem? (i := 15) rfl), vm_r1 _ (List.mem_of_getElem? (i := 5) rfl), by decide +kernel, by decide +kernel⟩
set_option maxRecDepth 100000 in
theorem vm_c152 : ∀ q ∈ vm_k152, vm_chk 11 q = true := by decide +kernel
theorem vm_o152 : vm_ok vm_m152 := ⟨11, rfl, vm_d152, vm_c152, by decide, rfl⟩
theorem vm_p152 : vm_mf vm_m152 := ⟨by decide +kernel, vm_r35 _ (List.mem_of_getElem? (i := 23) rfl), vm_r1 _ (List.mem_of_getElem? (i := 5) rfl), by decide +kernel, by decide +kernel⟩
set_option maxRecDepth 100000 in
theorem vm_c153 : ∀ q ∈ vm_k153, vm_chk 11 q = true := by decide +kernel
theorem vm_o153 : vm_ok vm_m153 := ⟨11, rfl, vm_d153, vm_c153, by decide, rfl⟩
theorem vm_p153 : vm_mf vm_m153 := ⟨by decide +kernel, vm_r21 _ (List.mem_of_getElem? (i := 16) rfl), vm_r1 _ (List.mem_of_getElem? (i := 5) rfl), by decide +kernel, by decide +kernel⟩
set_option maxRecDepth 100000 in
theorem vm_c154 : ∀ q ∈ vm_k154, vm_chk 11 q = true := by decide +kernel
theorem vm_o154 : vm_ok vm_m154 := ⟨11, rfl, vm_d154, vm_c154, by decide, rfl⟩
theorem vm_p154 : vm_mf vm_m154 := ⟨by decide +kernel, vm_r20 _ (List.mem_of_getElem? (i := 3) rfl), vm_r1 _ (List.mem_of_getElem? (i := 5) rfl), by decide +kernel, by decide +kernel⟩
set_option maxRecDepth 100000 in
theorem vm_c155 : ∀ q ∈ vm_k155, vm_chk 11 q = true := by decide +kernel
theorem vm_o155 : vm_ok vm_m155 := ⟨11, rfl, vm_d155, vm_c155, by decide, rfl⟩
theorem vm_p155 : vm_mf vm_m155 := ⟨by decide +kernel, vm_r21 _ (List.mem_of_getElem? (i := 11) rfl), vm_r1 _ (List.mem_of_getElem? (i := 5) rfl), by decide +kernel, by decide +kernel⟩
set_option maxRecDepth 100000 in
theorem vm_c156 : ∀ q ∈ vm_k156, vm_chk 11 q = true := by decide +kernel
theorem vm_o156 : vm_ok vm_m156 := ⟨11, rfl, vm_d156, vm_c156, by decide, rfl⟩
theorem vm_p156 : vm_mf vm_m156 := ⟨by decide +kernel, vm_r22 _ (List.mem_of_getElem? (i := 9) rfl), vm_r1 _ (List.mem_of_getElem? (i := 5) rfl), by decide +kernel, by decide +kernel⟩
set_option maxRecDepth 100000 in
theorem vm_c157 : ∀ q ∈ vm_k157, vm_chk 11 q = true := by decide +kernel
theorem vm_o157 : vm_ok vm_m157 := ⟨11, rfl, vm_d157, vm_c157, by decide, rfl⟩
theorem vm_p157 : vm_mf vm_m157 := ⟨by decide +kernel, vm_r25 _ (List.mem_of_getElem? (i := 19) rfl), vm_r1 _ (List.mem_of_getElem? (i := 5) rfl), by decide +kernel, by decide +kernel⟩
set_option maxRecDepth 100000 in
theorem vm_c158 : ∀ q ∈ vm_k158, vm_chk 11 q = true := by decide +kernel
theorem vm_o158 : vm_ok vm_m158 := ⟨11, rfl, vm_d158, vm_c158, by decide, rfl⟩
theorem vm_p158 : vm_mf vm_m158 := ⟨by decide +kernel, vm_r27 _ (List.mem_of_getElem? (i := 2) rfl), vm_r1 _ (List.mem_of_getElem? (i := 5) rfl), by decide +kernel, by decide +kernel⟩
set_option maxRecDepth 100000 in
theorem vm_c159 : ∀ q ∈ vm_k159, vm_chk 11 q = true := by decide +kernel
theorem vm_o159 : vm_ok vm_m159 := ⟨11, rfl, vm_d159, vm_c159, by decide, rfl⟩
theorem vm_p159 : vm_mf vm_m159 := ⟨by decide +kernel, vm_r29 _ (List.mem_of_getElem? (i := 2) rfl), vm_r1 _ (List.mem_of_getElem? (i := 5) rfl), by decide +kernel, by decide +kernel⟩
set_option maxRecDepth 100000 in
theorem vm_c160 : ∀ q ∈ vm_k160, vm_chk 11 q = true := by decide +kernel
theorem vm_o160 : vm_ok vm_m160 := ⟨11, rfl, vm_d160, vm_c160, by decide, rfl⟩
theorem vm_p160 : vm_mf vm_m160 := ⟨by decide +kernel, vm_r25 _ (List.mem_of_getElem? (i := 22) rfl), vm_r1 _ (List.mem_of_getElem? (i := 5) rfl), by decide +kernel, by decide +kernel⟩
set_option maxRecDepth 100000 in
theorem vm_c161 : ∀ q ∈ vm_k161, vm_chk 11 q = true := by decide +kernel
theorem vm_o161 : vm_ok vm_m161 := ⟨11, rfl, vm_d161, vm_c161, by decide, rfl⟩
theorem vm_p161 : vm_mf vm_m161 := ⟨by decide +kernel, vm_r25 _ (List.mem_of_getElem? (i := 8) rfl), vm_r1 _ (List.mem_of_getElem? (i := 5) rfl), by decide +kernel, by decide +kernel⟩
set_option maxRecDepth 100000 in
theorem vm_c162 : ∀ q ∈ vm_k162, vm_chk 11 q = true := by decide +kernel
theorem vm_o162 : vm_ok vm_m162 := ⟨11, rfl, vm_d162, vm_c162, by decide, rfl⟩
theorem vm_p162 : vm_mf vm_m162 := ⟨by decide +kernel, vm_r25 _ (List.mem_of_getElem? (i := 16) rfl), vm_r1 _ (List.mem_of_getElem? (i := 5) rfl), by decide +kernel, by decide +kernel⟩
set_option maxRecDepth 100000 in
theorem vm_c163 : ∀ q ∈ vm_k163, vm_chk 11 q = true := by decide +kernel
theorem vm_o163 : vm_ok vm_m163 := ⟨11, rfl, vm_d163, vm_c163, by decide, rfl⟩
theorem vm_p163 : vm_mf vm_m163 := ⟨by decide +kernel, vm_r26 _ (List.mem_of_getElem? (i := 23) rfl), vm_r1 _ (List.mem_of_getElem? (i := 5) rfl), by decide +kernel, by decide +kernel⟩
set_option maxRecDepth 100000 in
theorem vm_c164 : ∀ q ∈ vm_k164, vm_chk 11 q = true := by decide +kernel
theorem vm_o164 : vm_ok vm_m164 := ⟨11, rfl, vm_d164, vm_c164, by decide, rfl⟩
theorem vm_p164 : vm_mf vm_m164 := ⟨by decide +kernel, vm_r27 _ (List.mem_of_getElem? (i := 6) rfl), vm_r1 _ (List.mem_of_getElem? (i := 5) rfl), by decide +kernel, by decide +kernel⟩
set_option maxRecDepth 100000 in
theorem vm_c165 : ∀ q ∈ vm_k165, vm_chk 11 q = true := by decide +kernel
theorem vm_o165 : vm_ok vm_m165 := ⟨11, rfl, vm_d165, vm_c165, by decide, rfl⟩
theorem vm_p165 : vm_mf vm_m165 := ⟨by decide +kernel, vm_r25 _ (List.mem_of_getElem? (i := 12) rfl), vm_r1 _ (List.mem_of_getElem? (i := 5) rfl), by decide +kernel, by decide +kernel⟩
set_option maxRecDepth 100000 in
theorem vm_c166 : ∀ q ∈ vm_k166, vm_chk 11 q = true := by decide +kernel
theorem vm_o166 : vm_ok vm_m166 := ⟨11, rfl, vm_d166, vm_c166, by decide, rfl⟩
theorem vm_p166 : vm_mf vm_m166 := ⟨by decide +kernel, vm_r25 _ (List.mem_of_getElem? (i := 5) rfl), vm_r1 _ (List.mem_of_getElem? (i := 5) rfl), by decide +kernel, by decide +kernel⟩
set_option maxRecDepth 100000 in
theorem vm_c167 : ∀ q ∈ vm_k167, vm_chk 11 q = true := by decide +kernel
theorem vm_o167 : vm_ok vm_m167 := ⟨11, rfl, vm_d167, vm_c167, by decide, rfl⟩
theorem vm_p167 : vm_mf vm_m167 := ⟨by decide +kernel, vm_r26 _ (List.mem_of_getElem? (i := 18) rfl), vm_r1 _ (List.mem_of_getElem? (i := 5) rfl), by decide +kernel, by decide +kernel⟩
set_option maxRecDepth 100000 in
theorem vm_c168 : ∀ q ∈ vm_k168, vm_chk 11 q = true := by decide +kernel
theorem vm_o168 : vm_ok vm_m168 := ⟨11, rfl, vm_d168, vm_c168, by decide, rfl⟩
theorem vm_p168 : vm_mf vm_m168 := ⟨by decide +kernel, vm_r28 _ (List.mem_of_getElem? (i := 5) rfl), vm_r1 _ (List.mem_of_getElem? (i := 5) rfl), by decide +kernel, by decide +kernel⟩
set_option maxRecDepth 100000 in
theorem vm_c169 : ∀ q ∈ vm_k169, vm_chk 11 q = true := by decide +kernel
theorem vm_o169 : vm_ok vm_m169 := ⟨11, rfl, vm_d169, vm_c169, by decide, rfl⟩
theorem vm_p169 : vm_mf vm_m169 := ⟨by decide +kernel, vm_r28 _ (List.mem_of_getElem? (i := 8) rfl), vm_r1 _ (List.mem_of_getElem? (i := 5) rfl), by decide +kernel, by decide +kernel⟩
set_option maxRecDepth 100000 in
theorem vm_c170 : ∀ q ∈ vm_k170, vm_chk 11 q = true := by decide +kernel
theorem vm_o170 : vm_ok vm_m170 := ⟨11, rfl, vm_d170, vm_c170, by decide, rfl⟩
theorem vm_p170 : vm_mf vm_m170 := ⟨by decide +kernel, vm_r28 _ (List.mem_of_getElem? (i := 2) rfl), vm_r1 _ (List.mem_of_getElem? (i := 5) rfl), by decide +kernel, by decide +kernel⟩
set_option maxRecDepth 100000 in
theorem vm_c171 : ∀ q ∈ vm_k171, vm_chk 11 q = true := by decide +kernel
theorem vm_o171 : vm_ok vm_m171 := ⟨11, rfl, vm_d171, vm_c171, by decide, rfl⟩
theorem vm_p171 : vm_mf vm_m171 := ⟨by decide +kernel, vm_r28 _ (List.mem_of_getElem? (i := 22) rfl), vm_r1 _ (List.mem_of_getElem? (i := 5) rfl), by decide +kernel, by decide +kernel⟩
set_option maxRecDepth 100000 in
theorem vm_c172 : ∀ q ∈ vm_k172, vm_chk 11 q = true := by decide +kernel
theorem vm_o172 : vm_ok vm_m172 := ⟨11, rfl, vm_d172, vm_c172, by decide, rfl⟩
theorem vm_p172 : vm_mf vm_m172 := ⟨by decide +kernel, vm_r29 _ (List.mem_of_getElem? (i := 22) rfl), vm_r1 _ (List.mem_of_getElem? (i := 5) rfl), by decide +kernel, by decide +kernel⟩
set_option maxRecDepth 100000 in
theorem vm_c173 : ∀ q ∈ vm_k173, vm_chk 11 q = true := by decide +kernel
theorem vm_o173 : vm_ok vm_m173 := ⟨11, rfl, vm_d173, vm_c173, by decide, rfl⟩
theorem vm_p173 : vm_mf vm_m173 := ⟨by decide +kernel, vm_r29 _ (List.mem_of_getElem? (i := 18) rfl), vm_r1 _ (List.mem_of_getElem? (i := 5) rfl), by decide +kernel, by decide +kernel⟩
set_option maxRecDepth 100000 in
theorem vm_c174 : ∀ q ∈ vm_k174, vm_chk 11 q = true := by decide +kernel
theorem vm_o174 : vm_ok vm_m174 := ⟨11, rfl, vm_d174, vm_c174, by decide, rfl⟩
theorem vm_p174 : vm_mf vm_m174 := ⟨by decide +kernel, vm_r30 _ (List.mem_of_getElem? (i := 14) rfl), vm_r1 _ (List.mem_of_getElem? (i := 5) rfl), by decide +kernel, by decide +kernel⟩
set_option maxRecDepth 100000 in
theorem vm_c175 : ∀ q ∈ vm_k175, vm_chk 11 q = true := by decide +kernel
theorem vm_o175 : vm_ok vm_m175 := ⟨11, rfl, vm_d175, vm_c175, by decide, rfl⟩
theorem vm_p175 : vm_mf vm_m175 := ⟨by decide +kernel, vm_r31 _ (List.mem_of_getElem? (i := 2) rfl), vm_r1 _ (List.mem_of_getElem? (i := 5) rfl), by decide +kernel, by decide +kernel⟩
set_option maxRecDepth 100000 in
theorem vm_c176 : ∀ q ∈ vm_k176, vm_chk 11 q = true := by decide +kernel
theorem vm_o176 : vm_ok vm_m176 := ⟨11, rfl, vm_d176, vm_c176, by decide, rfl⟩
theorem vm_p176 : vm_mf vm_m176 := ⟨by decide +kernel, vm_r33 _ (List.mem_of_getElem? (i := 0) rfl), vm_r1 _ (List.mem_of_getElem? (i := 5) rfl), by decide +kernel, by decide +kernel⟩
set_option maxRecDepth 100000 in
theorem vm_c177 : ∀ q ∈ vm_k177, vm_chk 11 q = true := by decide +kernel
theorem vm_o177 : vm_ok vm_m177 := ⟨11, rfl, vm_d177, vm_c177, by decide, rfl⟩
theorem vm_p177 : vm_mf vm_m177 := ⟨by decide +kernel, vm_r33 _ (List.mem_of_getElem? (i := 8) rfl), vm_r1 _ (List.mem_of_getElem? (i := 5) rfl), by decide +kernel, by decide +kernel⟩
set_option maxRecDepth 100000 in
theorem vm_c178 : ∀ q ∈ vm_k178, vm_chk 11 q = true := by decide +kernel
theorem vm_o178 : vm_ok vm_m178 := ⟨11, rfl, vm_d178, vm_c178, by decide, rfl⟩
theorem vm_p178 : vm_mf vm_m178 := ⟨by decide +kernel, vm_r33 _ (List.mem_of_getElem? (i := 12) rfl), vm_r1 _ (List.mem_of_getElem? (i := 5) rfl), by decide +kernel, by decide +kernel⟩
set_option maxRecDepth 100000 in
theorem vm_c179 : ∀ q ∈ vm_k179, vm_chk 11 q = true := by decide +kernel
theorem vm_o179 : vm_ok vm_m179 := ⟨11, rfl, vm_d179, vm_c179, by decide, rfl⟩
theorem vm_p179 : vm_mf vm_m179 := ⟨by decide +kernel, vm_r33 _ (List.mem_of_getElem? (i := 4) rfl), vm_r1 _ (List.mem_of_getElem? (i := 5) rfl), by decide +kernel, by decide +kernel⟩
set_option maxRecDepth 100000 in
theorem vm_c180 : ∀ q ∈ vm_k180, vm_chk 11 q = true := by decide +kernel
theorem vm_o180 : vm_ok vm_m180 := ⟨11, rfl, vm_d180, vm_c180, by decide, rfl⟩
theorem vm_p180 : vm_mf vm_m180 := ⟨by decide +kernel, vm_r32 _ (List.mem_of_getElem? (i := 18) rfl), vm_r1 _ (List.mem_of_getElem? (i := 5) rfl), by decide +kernel, by decide +kernel⟩
set_option maxRecDepth 100000 in
theorem vm_c181 : ∀ q ∈ vm_k181, vm_chk 11 q = true := by decide +kernel
theorem vm_o181 : vm_ok vm_m181 := ⟨11, rfl, vm_d181, vm_c181, by decide, rfl⟩
theorem vm_p181 : vm_mf vm_m181 := ⟨by decide +kernel, vm_r35 _ (List.mem_of_getElem? (i := 19) rfl), vm_r1 _ (List.mem_of_getElem? (i := 5) rfl), by decide +kernel, by decide +kernel⟩
set_option maxRecDepth 100000 in
theorem vm_c182 : ∀ q ∈ vm_k182, vm_chk 11 q = true := by decide +kernel
theorem vm_o182 : vm_ok vm_m182 := ⟨11, rfl, vm_d182, vm_c182, by decide, rfl⟩
theorem vm_p182 : vm_mf vm_m182 := ⟨by decide +kernel, vm_r35 _ (List.mem_of_getElem? (i := 15) rfl), vm_r1 _ (List.mem_of_getElem? (i := 5) rfl), by decide +kernel, by decide +kernel⟩
set_option maxRecDepth 100000 in
theorem vm_c183 : ∀ q ∈ vm_k183, vm_chk 11 q = true := by decide +kernel
theorem vm_o183 : vm_ok vm_m183 := ⟨11, rfl, vm_d183, vm_c183, by decide, rfl⟩
theorem vm_p183 : vm_mf vm_m183 := ⟨by decide +kernel, vm_r35 _ (List.mem_of_getElem? (i := 11) rfl), vm_r1 _ (List.mem_of_getElem? (i := 5) rfl), by decide +kernel, by decide +kernel⟩
set_option maxRecDepth 100000 in
theorem vm_c184 : ∀ q ∈ vm_k184, vm_chk 11 q = true := by decide +kernel
theorem vm_o184 : vm_ok vm_m184 := ⟨11, rfl, vm_d184, vm_c184, by decide, rfl⟩
theorem vm_p184 : vm_mf vm_m184 := ⟨by decide +kernel, vm_r37 _ (List.mem_of_getElem? (i := 10) rfl), vm_r1 _ (List.mem_of_getElem? (i := 5) rfl), by decide +kernel, by decide +kernel⟩
set_option maxRecDepth 100000 in
theorem vm_c185 : ∀ q ∈ vm_k185, vm_chk 11 q = true := by decide +kernel
theorem vm_o185 : vm_ok vm_m185 := ⟨11, rfl, vm_d185, vm_c185, by decide, rfl⟩
theorem vm_p185 : vm_mf vm_m185 := ⟨by decide +kernel, vm_r37 _ (List.mem_of_getElem? (i := 14) rfl), vm_r1 _ (List.mem_of_getElem? (i := 5) rfl), by decide +kernel, by decide +kernel⟩
set_option maxRecDepth 100000 in
theorem vm_c186 : ∀ q ∈ vm_k186, vm_chk 11 q = true := by decide +kernel
theorem vm_o186 : vm_ok vm_m186 := ⟨11, rfl, vm_d186, vm_c186, by decide, rfl⟩
theorem vm_p186 : vm_mf vm_m186 := ⟨by decide +kernel, vm_r37 _ (List.mem_of_getElem? (i := 6) rfl), vm_r1 _ (List.mem_of_getElem? (i := 5) rfl), by decide +kernel, by decide +kernel⟩
set_option maxRecDepth 100000 in
theorem vm_c187 : ∀ q ∈ vm_k187, vm_chk 11 q = true := by decide +kernel
theorem vm_o187 : vm_ok vm_m187 := ⟨11, rfl, vm_d187, vm_c187, by decide, rfl⟩
theorem vm_p187 : vm_mf vm_m187 := ⟨by decide +kernel, vm_r37 _ (List.mem_of_getElem? (i := 23) rfl), vm_r1 _ (List.mem_of_getElem? (i := 5) rfl), by decide +kernel, by decide +kernel⟩
set_option maxRecDepth 100000 in
theorem vm_c188 : ∀ q ∈ vm_k188, vm_chk 11 q = true := by decide +kernel
theorem vm_o188 : vm_ok vm_m188 := ⟨11, rfl, vm_d188, vm_c188, by decide, rfl⟩
theorem vm_p188 : vm_mf vm_m188 := ⟨by decide +kernel, vm_r38 _ (List.mem_of_getElem? (i := 18) rfl), vm_r1 _ (List.mem_of_getElem? (i := 5) rfl), by decide +kernel, by decide +kernel⟩
set_option maxRecDepth 100000 in
theorem vm_c189 : ∀ q ∈ vm_k189, vm_chk 11 q = true := by decide +kernel
theorem vm_o189 : vm_ok vm_m189 := ⟨11, rfl, vm_d189, vm_c189, by decide, rfl⟩
theorem vm_p189 : vm_mf vm_m189 := ⟨by decide +kernel, vm_r38 _ (List.mem_of_getElem? (i := 14) rfl), vm_r1 _ (List.mem_of_getElem? (i := 5) rfl), by decide +kernel, by decide +kernel⟩
set_option maxRecDepth 100000 in
theorem vm_c190 : ∀ q ∈ vm_k190, vm_chk 11 q = true := by decide +kernel
theorem vm_o190 : vm_ok vm_m190 := ⟨11, rfl, vm_d190, vm_c190, by decide, rfl⟩
theorem vm_p190 : vm_mf vm_m190 := ⟨by decide +kernel, vm_r39 _ (List.mem_of_getElem? (i := 2) rfl), vm_r1 _ (List.mem_of_getElem? (i := 5) rfl), by decide +kernel, by decide +kernel⟩
set_option maxRecDepth 100000 in
theorem vm_c191 : ∀ q ∈ vm_k191, vm_chk 11 q = true := by decide +kernel
theorem vm_o191 : vm_ok vm_m191 := ⟨11, rfl, vm_d191, vm_c191, by decide, rfl⟩
theorem vm_p191 : vm_mf vm_m191 := ⟨by decide +kernel, vm_r39 _ (List.mem_of_getElem? (i := 10) rfl), vm_r1 _ (List.mem_of_getElem? (i := 5) rfl), by decide +kernel, by decide +kernel⟩
set_option maxRecDepth 100000 in
theorem vm_c192 : ∀ q ∈ vm_k192, vm_chk 11 q = true := by decide +kernel
theorem vm_o192 : vm_ok vm_m192 := ⟨11, rfl, vm_d192, vm_c192, by decide, rfl⟩
theorem vm_p192 : vm_mf vm_m192 := ⟨by decide +kernel, vm_r40 _ (List.mem_of_getElem? (i := 2) rfl), vm_r1 _ (List.mem_of_getElem? (i := 5) rfl), by decide +kernel, by decide +kernel⟩
set_option maxRecDepth 100000 in
theorem vm_c193 : ∀ q ∈ vm_k193, vm_chk 11 q = true := by decide +kernel
theorem vm_o193 : vm_ok vm_m193 := ⟨11, rfl, vm_d193, vm_c193, by decide, rfl⟩
theorem vm_p193 : vm_mf vm_m193 := ⟨by decide +kernel, vm_r40 _ (List.mem_of_getElem? (i := 20) rfl), vm_r1 _ (List.mem_of_getElem? (i := 5) rfl), by decide +kernel, by decide +kernel⟩
set_option maxRecDepth 100000 in
theorem vm_c194 : ∀ q ∈ vm_k194, vm_chk 11 q = true := by decide +kernel
theorem vm_o194 : vm_ok vm_m194 := ⟨11, rfl, vm_d194, vm_c194, by decide, rfl⟩
theorem vm_p194 : vm_mf vm_m194 := ⟨by decide +kernel, vm_r42 _ (List.mem_of_getElem? (i := 8) rfl), vm_r1 _ (List.mem_of_getElem? (i := 5) rfl), by decide +kernel, by decide +kernel⟩
set_option maxRecDepth 100000 in
theorem vm_c195 : ∀ q ∈ vm_k195, vm_chk 11 q = true := by decide +kernel
theorem vm_o195 : vm_ok vm_m195 := ⟨11, rfl, vm_d195, vm_c195, by decide, rfl⟩
theorem vm_p195 : vm_mf vm_m195 := ⟨by decide +kernel, vm_r42 _ (List.mem_of_getElem? (i := 4) rfl), vm_r1 _ (List.mem_of_getElem? (i := 5) rfl), by decide +kernel, by decide +kernel⟩
set_option maxRecDepth 100000 in
theorem vm_c196 : ∀ q ∈ vm_k196, vm_chk 11 q = true := by decide +kernel
theorem vm_o196 : vm_ok vm_m196 := ⟨11, rfl, vm_d196, vm_c196, by decide, rfl⟩
theorem vm_p196 : vm_mf vm_m196 := ⟨by decide +kernel, vm_r43 _ (List.mem_of_getElem? (i := 19) rfl), vm_r1 _ (List.mem_of_getElem? (i := 5) rfl), by decide +kernel, by decide +kernel⟩
set_option maxRecDepth 100000 in
theorem vm_c197 : ∀ q ∈ vm_k197, vm_chk 11 q = true := by decide +kernel
theorem vm_o197 : vm_ok vm_m197 := ⟨11, rfl, vm_d197, vm_c197, by decide, rfl⟩
theorem vm_p197 : vm_mf vm_m197 := ⟨by decide +kernel, vm_r43 _ (List.mem_of_getElem? (i := 11) rfl), vm_r1 _ (List.mem_of_getElem? (i := 5) rfl), by decide +kernel, by decide +kernel⟩
set_option maxRecDepth 100000 in
theorem vm_c198 : ∀ q ∈ vm_k198, vm_chk 11 q = true := by decide +kernel
theorem vm_o198 : vm_ok vm_m198 := ⟨11, rfl, vm_d198, vm_c198, by decide, rfl⟩
theorem vm_p198 : vm_mf vm_m198 := ⟨by decide +kernel, vm_r44 _ (List.mem_of_getElem? (i := 4) rfl), vm_r1 _ (List.mem_of_getElem? (i := 5) rfl), by decide +kernel, by decide +kernel⟩
set_option maxRecDepth 100000 in
theorem vm_c199 : ∀ q ∈ vm_k199, vm_chk 11 q = true := by decide +kernel
theorem vm_o199 : vm_ok vm_m199 := ⟨11, rfl, vm_d199, vm_c199, by decide, rfl⟩
theorem vm_p199 : vm_mf vm_m199 := ⟨by decide +kernel, vm_r44 _ (List.mem_of_getElem? (i := 12) rfl), vm_r1 _ (List.mem_of_getElem? (i := 5) rfl), by decide +kernel, by decide +kernel⟩
set_option maxRecDepth 100000 in
theorem vm_c200 : ∀ q ∈ vm_k200, vm_chk 11 q = true := by decide +kernel
theorem vm_o200 : vm_ok vm_m200 := ⟨11, rfl, vm_d200, vm_c200, by decide, rfl⟩
theorem vm_p200 : vm_mf vm_m200 := ⟨by decide +kernel, vm_r45 _ (List.mem_of_getElem? (i := 8) rfl), vm_r1 _ (List.mem_of_getElem? (i := 5) rfl), by decide +kernel, by decide +kernel⟩
set_option maxRecDepth 100000 in
theorem vm_c201 : ∀ q ∈ vm_k201, vm_chk 11 q = true := by decide +kernel
theorem vm_o201 : vm_ok vm_m201 := ⟨11, rfl, vm_d201, vm_c201, by decide, rfl⟩
theorem vm_p201 : vm_mf vm_m201 := ⟨by decide +kernel, vm_r45 _ (List.mem_of_getElem? (i := 4) rfl), vm_r1 _ (List.mem_of_getElem? (i := 5) rfl), by decide +kernel, by decide +kernel⟩
set_option maxRecDepth 100000 in
theorem vm_c202 : ∀ q ∈ vm_k202, vm_chk 13 q = true := by decide +kernel
theorem vm_o202 : vm_ok vm_m202 := ⟨13, rfl, vm_d202, vm_c202, by decide, rfl⟩
theorem vm_p202 : vm_mf vm_m202 := ⟨by decide +kernel, vm_r3 _ (List.mem_of_getElem? (i := 10) rfl), vm_r3 _ (List.mem_of_getElem? (i := 9) rfl), by decide +kernel, by decide +kernel⟩
set_option maxRecDepth 100000 in
theorem vm_c203 : ∀ q ∈ vm_k203, vm_chk 13 q = true := by decide +kernel
theorem vm_o203 : vm_ok vm_m203 := ⟨13, rfl, vm_d203, vm_c203, by decide, rfl⟩
theorem vm_p203 : vm_mf vm_m203 := ⟨by decide +kernel, vm_r24 _ (List.mem_of_getElem? (i := 16) rfl), vm_r3 _ (List.mem_of_getElem? (i := 9) rfl), by decide +kernel, by decide +kernel⟩
set_option maxRecDepth 100000 in
theorem vm_c204 : ∀ q ∈ vm_k204, vm_chk 13 q = true := by decide +kernel
theorem vm_o204 : vm_ok vm_m204 := ⟨13, rfl, vm_d204, vm_c204, by decide, rfl⟩
theorem vm_p204 : vm_mf vm_m204 := ⟨by decide +kernel, vm_r21 _ (List.mem_of_getElem? (i := 7) rfl), vm_r3 _ (List.mem_of_getElem? (i := 9) rfl), by decide +kernel, by decide +kernel⟩
set_option maxRecDepth 100000 in
theorem vm_c205 : ∀ q ∈ vm_k205, vm_chk 12 q = true := by decide +kernel
theorem vm_o205 : vm_ok vm_m205 := ⟨12, rfl, vm_d205, vm_c205, by decide, rfl⟩
theorem vm_MTo_0 : ∀ q ∈ ([vm_m0, vm_m1, vm_m2, vm_m3, vm_m4, vm_m5, vm_m6, vm_m7, vm_m8, vm_m9, vm_m10, vm_m11, vm_m12, vm_m13, vm_m14, vm_m15] : List vm_M), vm_ok q := List.forall_mem_cons.mpr ⟨vm_o0, List.forall_mem_cons.mpr ⟨vm_o1, List.forall_mem_cons.mpr ⟨vm_o2, List.forall_mem_cons.mpr ⟨vm_o3, List.forall_mem_cons.mpr ⟨vm_o4, List.forall_mem_cons.mpr ⟨vm_o5, List.forall_mem_cons.mpr ⟨vm_o6, List.forall_mem_cons.mpr ⟨vm_o7, List.forall_mem_cons.mpr ⟨vm_o8, List.forall_mem_cons.mpr ⟨vm_o9, List.forall_mem_cons.mpr ⟨vm_o10, List.forall_mem_cons.mpr ⟨vm_o11, List.forall_mem_cons.mpr ⟨vm_o12, List.forall_mem_cons.mpr ⟨vm_o13, List.forall_mem_cons.mpr ⟨vm_o14, List.forall_mem_cons.mpr ⟨vm_o15, fun _ h => absurd h List.not_mem_nil⟩⟩⟩⟩⟩⟩⟩⟩⟩⟩⟩⟩⟩⟩⟩⟩
theorem vm_MTo_1 : ∀ q ∈ ([vm_m16, vm_m17, vm_m18, vm_m19, vm_m20, vm_m21, vm_m22, vm_m23, vm_m24, vm_m25, vm_m26, vm_m27, vm_m28, vm_m29, vm_m30, vm_m31] : List vm_M), vm_ok q := List.forall_mem_cons.mpr ⟨vm_o16, List.forall_mem_cons.mpr ⟨vm_o17, List.forall_mem_cons.mpr ⟨vm_o18, List.forall_mem_cons.mpr ⟨vm_o19, List.forall_mem_cons.mpr ⟨vm_o20, List.forall_mem_cons.mpr ⟨vm_o21, List.forall_mem_cons.mpr ⟨vm_o22, List.forall_mem_cons.mpr ⟨vm_o23, List.forall_mem_cons.mpr ⟨vm_o24, List.forall_mem_cons.mpr ⟨vm_o25, List.forall_mem_cons.mpr ⟨vm_o26, List.forall_mem_cons.mpr ⟨vm_o27, List.forall_mem_cons.mpr ⟨vm_o28, List.forall_mem_cons.mpr ⟨vm_o29, List.forall_mem_cons.mpr ⟨vm_o30, List.forall_mem_cons.mpr ⟨vm_o31, fun _ h => absurd h List.not_mem_nil⟩⟩⟩⟩⟩⟩⟩⟩⟩⟩⟩⟩⟩⟩⟩⟩
theorem vm_MTo_2 : ∀ q ∈ ([vm_m32, vm_m33, vm_m34, vm_m35, vm_m36, vm_m37, vm_m38, vm_m39, vm_m40, vm_m41, vm_m42, vm_m43, vm_m44, vm_m45, vm_m46, vm_m47] : List vm_M), vm_ok q := List.forall_mem_cons.mpr ⟨vm_o32, List.forall_mem_cons.mpr ⟨vm_o33, List.forall_mem_cons.mpr ⟨vm_o34, List.forall_mem_cons.mpr ⟨vm_o35, List.forall_mem_cons.mpr ⟨vm_o36, List.forall_mem_cons.mpr ⟨vm_o37, List.forall_mem_cons.mpr ⟨vm_o38, List.forall_mem_cons.mpr ⟨vm_o39, List.forall_mem_cons.mpr ⟨vm_o40, List.forall_mem_cons.mpr ⟨vm_o41, List.forall_mem_cons.mpr ⟨vm_o42, List.forall_mem_cons.mpr ⟨vm_o43, List.forall_mem_cons.mpr ⟨vm_o44, List.forall_mem_cons.mpr ⟨vm_o45, List.forall_mem_cons.mpr ⟨vm_o46, List.forall_mem_cons.mpr ⟨vm_o47, fun _ h => absurd h List.not_mem_nil⟩⟩⟩⟩⟩⟩⟩⟩⟩⟩⟩⟩⟩⟩⟩⟩
theorem vm_MTo_3 : ∀ q ∈ ([vm_m48, vm_m49, vm_m50, vm_m51, vm_m52, vm_m53, vm_m54, vm_m55, vm_m56, vm_m57, vm_m58, vm_m59, vm_m60, vm_m61, vm_m62, vm_m63] : List vm_M), vm_ok q := List.forall_mem_cons.mpr ⟨vm_o48, List.forall_mem_cons.mpr ⟨vm_o49, List.forall_mem_cons.mpr ⟨vm_o50, List.forall_mem_cons.mpr ⟨vm_o51, List.forall_mem_cons.mpr ⟨vm_o52, List.forall_mem_cons.mpr ⟨vm_o53, List.forall_mem_cons.mpr ⟨vm_o54, List.forall_mem_cons.mpr ⟨vm_o55, List.forall_mem_cons.mpr ⟨vm_o56, List.forall_mem_cons.mpr ⟨vm_o57, List.forall_mem_cons.mpr ⟨vm_o58, List.forall_mem_cons.mpr ⟨vm_o59, List.forall_mem_cons.mpr ⟨vm_o60, List.forall_mem_cons.mpr ⟨vm_o61, List.forall_mem_cons.mpr ⟨vm_o62, List.forall_mem_cons.mpr ⟨vm_o63, fun _ h => absurd h List.not_mem_nil⟩⟩⟩⟩⟩⟩⟩⟩⟩⟩⟩⟩⟩⟩⟩⟩
theorem vm_MTo_4 : ∀ q ∈ ([vm_m64, vm_m65, vm_m66, vm_m67, vm_m68, vm_m69, vm_m70, vm_m71, vm_m72, vm_m73, vm_m74, vm_m75, vm_m76, vm_m77, vm_m78, vm_m79] : List vm_M), vm_ok q := List.forall_mem_cons.mpr ⟨vm_o64, List.forall_mem_cons.mpr ⟨vm_o65, List.forall_mem_cons.mpr ⟨vm_o66, List.forall_mem_cons.mpr ⟨vm_o67, List.forall_mem_cons.mpr ⟨vm_o68, List.forall_mem_cons.mpr ⟨vm_o69, List.forall_mem_cons.mpr ⟨vm_o70, List.forall_mem_cons.mpr ⟨vm_o71, List.forall_mem_cons.mpr ⟨vm_o72, List.forall_mem_cons.mpr ⟨vm_o73, List.forall_mem_cons.mpr ⟨vm_o74, List.forall_mem_cons.mpr ⟨vm_o75, List.forall_mem_cons.mpr ⟨vm_o76, List.forall_mem_cons.mpr ⟨vm_o77, List.forall_mem_cons.mpr ⟨vm_o78, List.forall_mem_cons.mpr ⟨vm_o79, fun _ h => absurd h List.not_mem_nil⟩⟩⟩⟩⟩⟩⟩⟩⟩⟩⟩⟩⟩⟩⟩⟩
theorem vm_MTo_5 : ∀ q ∈ ([vm_m80, vm_m81, vm_m82, vm_m83, vm_m84, vm_m85, vm_m86, vm_m87, vm_m88, vm_m89, vm_m90, vm_m91, vm_m92, vm_m93, vm_m94, vm_m95] : List vm_M), vm_ok q := List.forall_mem_cons.mpr ⟨vm_o80, List.forall_mem_cons.mpr ⟨vm_o81, List.forall_mem_cons.mpr ⟨vm_o82, List.forall_mem_cons.mpr ⟨vm_o83, List.forall_mem_cons.mpr ⟨vm_o84, List.forall_mem_cons.mpr ⟨vm_o85, List.forall_mem_cons.mpr ⟨vm_o86, List.forall_mem_cons.mpr ⟨vm_o87, List.forall_mem_cons.mpr ⟨vm_o88, List.forall_mem_cons.mpr ⟨vm_o89, List.forall_mem_cons.mpr ⟨vm_o90, List.forall_mem_cons.mpr ⟨vm_o91, List.forall_mem_cons.mpr ⟨vm_o92, List.forall_mem_cons.mpr ⟨vm_o93, List.forall_mem_cons.mpr ⟨vm_o94, List.forall_mem_cons.mpr ⟨vm_o95, fun _ h => absurd h List.not_mem_nil⟩⟩⟩⟩⟩⟩⟩⟩⟩⟩⟩⟩⟩⟩⟩⟩
theorem vm_MTo_6 : ∀ q ∈ ([vm_m96, vm_m97, vm_m98, vm_m99, vm_m100, vm_m101, vm_m102, vm_m103, vm_m104, vm_m105, vm_m106, vm_m107, vm_m108, vm_m109, vm_m110, vm_m111] : List vm_M), vm_ok q := List.forall_mem_cons.mpr ⟨vm_o96, List.forall_mem_cons.mpr ⟨vm_o97, List.forall_mem_cons.mpr ⟨vm_o98, List.forall_mem_cons.mpr ⟨vm_o99, List.forall_mem_cons.mpr ⟨vm_o100, List.forall_mem_cons.mpr ⟨vm_o101, List.forall_mem_cons.mpr ⟨vm_o102, List.forall_mem_cons.mpr ⟨vm_o103, List.forall_mem_cons.mpr ⟨vm_o104, List.forall_mem_cons.mpr ⟨vm_o105, List.forall_mem_cons.mpr ⟨vm_o106, List.forall_mem_cons.mpr ⟨vm_o107, List.forall_mem_cons.mpr ⟨vm_o108, List.forall_mem_cons.mpr ⟨vm_o109, List.forall_mem_cons.mpr ⟨vm_o110, List.forall_mem_cons.mpr ⟨vm_o111, fun _ h => absurd h List.not_mem_nil⟩⟩⟩⟩⟩⟩⟩⟩⟩⟩⟩⟩⟩⟩⟩⟩
theorem vm_MTo_7 : ∀ q ∈ ([vm_m112, vm_m113, vm_m114, vm_m115, vm_m116, vm_m117, vm_m118, vm_m119, vm_m120, vm_m121, vm_m122, vm_m123, vm_m124, vm_m125, vm_m126, vm_m127] : List vm_M), vm_ok q := List.forall_mem_cons.mpr ⟨vm_o112, List.forall_mem_cons.mpr ⟨vm_o113, List.forall_mem_cons.mpr ⟨vm_o114, List.forall_mem_cons.mpr ⟨vm_o115, List.forall_mem_cons.mpr ⟨vm_o116, List.forall_mem_cons.mpr ⟨vm_o117, List.forall_mem_cons.mpr ⟨vm_o118, List.forall_mem_cons.mpr ⟨vm_o119, List.forall_mem_cons.mpr ⟨vm_o120, List.forall_mem_cons.mpr ⟨vm_o121, List.forall_mem_cons.mpr ⟨vm_o122, List.forall_mem_cons.mpr ⟨vm_o123, List.forall_mem_cons.mpr ⟨vm_o124, List.forall_mem_cons.mpr ⟨vm_o125, List.forall_mem_cons.mpr ⟨vm_o126, List.forall_mem_cons.mpr ⟨vm_o127, fun _ h => absurd h List.not_mem_nil⟩⟩⟩⟩⟩⟩⟩⟩⟩⟩⟩⟩⟩⟩⟩⟩
theorem vm_MTo_8 : ∀ q ∈ ([vm_m128, vm_m129, vm_m130, vm_m131, vm_m132, vm_m133, vm_m134, vm_m135, vm_m136, vm_m137, vm_m138, vm_m139, vm_m140, vm_m141, vm_m142, vm_m143] : List vm_M), vm_ok q := List.forall_mem_cons.mpr ⟨vm_o128, List.forall_mem_cons.mpr ⟨vm_o129, List.forall_mem_cons.mpr ⟨vm_o130, List.forall_mem_cons.mpr ⟨vm_o131, List.forall_mem_cons.mpr ⟨vm_o132, List.forall_mem_cons.mpr ⟨vm_o133, List.forall_mem_cons.mpr ⟨vm_o134, List.forall_mem_cons.mpr ⟨vm_o135, List.forall_mem_cons.mpr ⟨vm_o136, List.forall_mem_cons.mpr ⟨vm_o137, List.forall_mem_cons.mpr ⟨vm_o138, List.forall_mem_cons.mpr ⟨vm_o139, List.forall_mem_cons.mpr ⟨vm_o140, List.forall_mem_cons.mpr ⟨vm_o141, List.forall_mem_cons.mpr ⟨vm_o142, List.forall_mem_cons.mpr ⟨vm_o143, fun _ h => absurd h List.not_mem_nil⟩⟩⟩⟩⟩⟩⟩⟩⟩⟩⟩⟩⟩⟩⟩⟩
theorem vm_MTo_9 : ∀ q ∈ ([vm_m144, vm_m145, vm_m146, vm_m147, vm_m148, vm_m149, vm_m150, vm_m151, vm_m152, vm_m153, vm_m154, vm_m155, vm_m156, vm_m157, vm_m158, vm_m159] : List vm_M), vm_ok q := List.forall_mem_cons.mpr ⟨vm_o144, List.forall_mem_cons.mpr ⟨vm_o145, List.forall_mem_cons.mpr ⟨vm_o146, List.forall_mem_cons.mpr ⟨vm_o147, List.forall_mem_cons.mpr ⟨vm_o148, List.forall_mem_cons.mpr ⟨vm_o149, List.forall_mem_cons.mpr ⟨vm_o150, List.forall_mem_cons.mpr ⟨vm_o151, List.forall_mem_cons.mpr ⟨vm_o152, List.forall_mem_cons.mpr ⟨vm_o153, List.forall_mem_cons.mpr ⟨vm_o154, List.forall_mem_cons.mpr ⟨vm_o155, List.forall_mem_cons.mpr ⟨vm_o156, List.forall_mem_cons.mpr ⟨vm_o157, List.forall_mem_cons.mpr ⟨vm_o158, List.forall_mem_cons.mpr ⟨vm_o159, fun _ h => absurd h List.not_mem_nil⟩⟩⟩⟩⟩⟩⟩⟩⟩⟩⟩⟩⟩⟩⟩⟩
theorem vm_MTo_10 : ∀ q ∈ ([vm_m160, vm_m161, vm_m162, vm_m163, vm_m164, vm_m165, vm_m166, vm_m167, vm_m168, vm_m169, vm_m170, vm_m171, vm_m172, vm_m173, vm_m174, vm_m175] : List vm_M), vm_ok q := List.forall_mem_cons.mpr ⟨vm_o160, List.forall_mem_cons.mpr ⟨vm_o161, List.forall_mem_cons.mpr ⟨vm_o162, List.forall_mem_cons.mpr ⟨vm_o163, List.forall_mem_cons.mpr ⟨vm_o164, List.forall_mem_cons.mpr ⟨vm_o165, List.forall_mem_cons.mpr ⟨vm_o166, List.forall_mem_cons.mpr ⟨vm_o167, List.forall_mem_cons.mpr ⟨vm_o168, List.forall_mem_cons.mpr ⟨vm_o169, List.forall_mem_cons.mpr ⟨vm_o170, List.forall_mem_cons.mpr ⟨vm_o171, List.forall_mem_cons.mpr ⟨vm_o172, List.forall_mem_cons.mpr ⟨vm_o173, List.forall_mem_cons.mpr ⟨vm_o174, List.forall_mem_cons.mpr ⟨vm_o175, fun _ h => absurd h List.not_mem_nil⟩⟩⟩⟩⟩⟩⟩⟩⟩⟩⟩⟩⟩⟩⟩⟩
theorem vm_MTo_11 : ∀ q ∈ ([vm_m176, vm_m177, vm_m178, vm_m179, vm_m180, vm_m181, vm_m182, vm_m183, vm_m184, vm_m185, vm_m186, vm_m187, vm_m188, vm_m189, vm_m190, vm_m191] : List vm_M), vm_ok q := List.forall_mem_cons.mpr ⟨vm_o176, List.forall_mem_cons.mpr ⟨vm_o177, List.forall_mem_cons.mpr ⟨vm_o178, List.forall_mem_cons.mpr ⟨vm_o179, List.forall_mem_cons.mpr ⟨vm_o180, List.forall_mem_cons.mpr ⟨vm_o181, List.forall_mem_cons.mpr ⟨vm_o182, List.forall_mem_cons.mpr ⟨vm_o183, List.forall_mem_cons.mpr ⟨vm_o184, List.forall_mem_cons.mpr ⟨vm_o185, List.forall_mem_cons.mpr ⟨vm_o186, List.forall_mem_cons.mpr ⟨vm_o187, List.forall_mem_cons.mpr ⟨vm_o188, List.forall_mem_cons.mpr ⟨vm_o189, List.forall_mem_cons.mpr ⟨vm_o190, List.forall_mem_cons.mpr ⟨vm_o191, fun _ h => absurd h List.not_mem_nil⟩⟩⟩⟩⟩⟩⟩⟩⟩⟩⟩⟩⟩⟩⟩⟩
theorem vm_MTo_12 : ∀ q ∈ ([vm_m192, vm_m193, vm_m194, vm_m195, vm_m196, vm_m197, vm_m198, vm_m199, vm_m200, vm_m201, vm_m202, vm_m203, vm_m204, vm_m205] : List vm_M), vm_ok q := List.forall_mem_cons.mpr ⟨vm_o192, List.forall_mem_cons.mpr ⟨vm_o193, List.forall_mem_cons.mpr ⟨vm_o194, List.forall_mem_cons.mpr ⟨vm_o195, List.forall_mem_cons.mpr ⟨vm_o196, List.forall_mem_cons.mpr ⟨vm_o197, List.forall_mem_cons.mpr ⟨vm_o198, List.forall_mem_cons.mpr ⟨vm_o199, List.forall_mem_cons.mpr ⟨vm_o200, List.forall_mem_cons.mpr ⟨vm_o201, List.forall_mem_cons.mpr ⟨vm_o202, List.forall_mem_cons.mpr ⟨vm_o203, List.forall_mem_cons.mpr ⟨vm_o204, List.forall_mem_cons.mpr ⟨vm_o205, fun _ h => absurd h List.not_mem_nil⟩⟩⟩⟩⟩⟩⟩⟩⟩⟩⟩⟩⟩⟩
set_option maxRecDepth 100000 in
theorem vm_MT_eq : vm_MT = [vm_m0, vm_m1, vm_m2, vm_m3, vm_m4, vm_m5, vm_m6, vm_m7, vm_m8, vm_m9, vm_m10, vm_m11, vm_m12, vm_m13, vm_m14, vm_m15] ++ ([vm_m16, vm_m17, vm_m18, vm_m19, vm_m20, vm_m21, vm_m22, vm_m23, vm_m24, vm_m25, vm_m26, vm_m27, vm_m28, vm_m29, vm_m30, vm_m31] ++ ([vm_m32, vm_m33, vm_m34, vm_m35, vm_m36, vm_m37, vm_m38, vm_m39, vm_m40, vm_m41, vm_m42, vm_m43, vm_m44, vm_m45, vm_m46, vm_m47] ++ ([vm_m48, vm_m49, vm_m50, vm_m51, vm_m52, vm_m53, vm_m54, vm_m55, vm_m56, vm_m57, vm_m58, vm_m59, vm_m60, vm_m61, vm_m62, vm_m63] ++ ([vm_m64, vm_m65, vm_m66, vm_m67, vm_m68, vm_m69, vm_m70, vm_m71, vm_m72, vm_m73, vm_m74, vm_m75, vm_m76, vm_m77, vm_m78, vm_m79] ++ ([vm_m80, vm_m81, vm_m82, vm_m83, vm_m84, vm_m85, vm_m86, vm_m87, vm_m88, vm_m89, vm_m90, vm_m91, vm_m92, vm_m93, vm_m94, vm_m95] ++ ([vm_m96, vm_m97, vm_m98, vm_m99, vm_m100, vm_m101, vm_m102, vm_m103, vm_m104, vm_m105, vm_m106, vm_m107, vm_m108, vm_m109, vm_m110, vm_m111] ++ ([vm_m112, vm_m113, vm_m114, vm_m115, vm_m116, vm_m117, vm_m118, vm_m119, vm_m120, vm_m121, vm_m122, vm_m123, vm_m124, vm_m125, vm_m126, vm_m127] ++ ([vm_m128, vm_m129, vm_m130, vm_m131, vm_m132, vm_m133, vm_m134, vm_m135, vm_m136, vm_m137, vm_m138, vm_m139, vm_m140, vm_m141, vm_m142, vm_m143] ++ ([vm_m144, vm_m145, vm_m146, vm_m147, vm_m148, vm_m149, vm_m150, vm_m151, vm_m152, vm_m153, vm_m154, vm_m155, vm_m156, vm_m157, vm_m158, vm_m159] ++ ([vm_m160, vm_m161, vm_m162, vm_m163, vm_m164, vm_m165, vm_m166, vm_m167, vm_m168, vm_m169, vm_m170, vm_m171, vm_m172, vm_m173, vm_m174, vm_m175] ++ ([vm_m176, vm_m177, vm_m178, vm_m179, vm_m180, vm_m181, vm_m182, vm_m183, vm_m184, vm_m185, vm_m186, vm_m187, vm_m188, vm_m189, vm_m190, vm_m191] ++ ([vm_m192, vm_m193, vm_m194, vm_m195, vm_m196, vm_m197, vm_m198, vm_m199, vm_m200, vm_m201, vm_m202, vm_m203, vm_m204, vm_m205])))))))))))) := rfl
theorem vm_MT_ok : ∀ q ∈ vm_MT, vm_ok q := by
  rw [vm_MT_eq]
  exact List.forall_mem_append.mpr ⟨vm_MTo_0, List.forall_mem_append.mpr ⟨vm_MTo_1, List.forall_mem_append.mpr ⟨vm_MTo_2, List.forall_mem_append.mpr ⟨vm_MTo_3, List.forall_mem_append.mpr ⟨vm_MTo_4, List.forall_mem_append.mpr ⟨vm_MTo_5, List.forall_mem_append.mpr ⟨vm_MTo_6, List.forall_mem_append.mpr ⟨vm_MTo_7, List.forall_mem_append.mpr ⟨vm_MTo_8, List.forall_mem_append.mpr ⟨vm_MTo_9, List.forall_mem_append.mpr ⟨vm_MTo_10, List.forall_mem_append.mpr ⟨vm_MTo_11, vm_MTo_12⟩⟩⟩⟩⟩⟩⟩⟩⟩⟩⟩⟩
theorem vm_MTp_0 : ∀ q ∈ ([vm_m0, vm_m1, vm_m2, vm_m3, vm_m4, vm_m5, vm_m6, vm_m7, vm_m8, vm_m9, vm_m10, vm_m11, vm_m12, vm_m13, vm_m14, vm_m15] : List vm_M), vm_mf q := List.forall_mem_cons.mpr ⟨vm_p0, List.forall_mem_cons.mpr ⟨vm_p1, List.forall_mem_cons.mpr ⟨vm_p2, List.forall_mem_cons.mpr ⟨vm_p3, List.forall_mem_cons.mpr ⟨vm_p4, List.forall_mem_cons.mpr ⟨vm_p5, List.forall_mem_cons.mpr ⟨vm_p6, List.forall_mem_cons.mpr ⟨vm_p7, List.forall_mem_cons.mpr ⟨vm_p8, List.forall_mem_cons.mpr ⟨vm_p9, List.forall_mem_cons.mpr ⟨vm_p10, List.forall_mem_cons.mpr ⟨vm_p11, List.forall_mem_cons.mpr ⟨vm_p12, List.forall_mem_cons.mpr ⟨vm_p13, List.forall_mem_cons.mpr ⟨vm_p14, List.forall_mem_cons.mpr ⟨vm_p15, fun _ h => absurd h List.not_mem_nil⟩⟩⟩⟩⟩⟩⟩⟩⟩⟩⟩⟩⟩⟩⟩⟩
theorem vm_MTp_1 : ∀ q ∈ ([vm_m16, vm_m17, vm_m18, vm_m19, vm_m20, vm_m21, vm_m22, vm_m23, vm_m24, vm_m25, vm_m26, vm_m27, vm_m28, vm_m29, vm_m30, vm_m31] : List vm_M), vm_mf q := List.forall_mem_cons.mpr ⟨vm_p16, List.forall_mem_cons.mpr ⟨vm_p17, List.forall_mem_cons.mpr ⟨vm_p18, List.forall_mem_cons.mpr ⟨vm_p19, List.forall_mem_cons.mpr ⟨vm_p20, List.forall_mem_cons.mpr ⟨vm_p21, List.forall_mem_cons.mpr ⟨vm_p22, List.forall_mem_cons.mpr ⟨vm_p23, List.forall_mem_cons.mpr ⟨vm_p24, List.forall_mem_cons.mpr ⟨vm_p25, List.forall_mem_cons.mpr ⟨vm_p26, List.forall_mem_cons.mpr ⟨vm_p27, List.forall_mem_cons.mpr ⟨vm_p28, List.forall_mem_cons.mpr ⟨vm_p29, List.forall_mem_cons.mpr ⟨vm_p30, List.forall_mem_cons.mpr ⟨vm_p31, fun _ h => absurd h List.not_mem_nil⟩⟩⟩⟩⟩⟩⟩⟩⟩⟩⟩⟩⟩⟩⟩⟩
theorem vm_MTp_2 : ∀ q ∈ ([vm_m32, vm_m33, vm_m34, vm_m35, vm_m36, vm_m37, vm_m38, vm_m39, vm_m40, vm_m41, vm_m42, vm_m43, vm_m44, vm_m45, vm_m46, vm_m47] : List vm_M), vm_mf q := List.forall_mem_cons.mpr ⟨vm_p32, List.forall_mem_cons.mpr ⟨vm_p33, List.forall_mem_cons.mpr ⟨vm_p34, List.forall_mem_cons.mpr ⟨vm_p35, List.forall_mem_cons.mpr ⟨vm_p36, List.forall_mem_cons.mpr ⟨vm_p37, List.forall_mem_cons.mpr ⟨vm_p38, List.forall_mem_cons.mpr ⟨vm_p39, List.forall_mem_cons.mpr ⟨vm_p40, List.forall_mem_cons.mpr ⟨vm_p41, List.forall_mem_cons.mpr ⟨vm_p42, List.forall_mem_cons.mpr ⟨vm_p43, List.forall_mem_cons.mpr ⟨vm_p44, List.forall_mem_cons.mpr ⟨vm_p45, List.forall_mem_cons.mpr ⟨vm_p46, List.forall_mem_cons.mpr ⟨vm_p47, fun _ h => absurd h List.not_mem_nil⟩⟩⟩⟩⟩⟩⟩⟩⟩⟩⟩⟩⟩⟩⟩⟩
theorem vm_MTp_3 : ∀ q ∈ ([vm_m48, vm_m49, vm_m50, vm_m51, vm_m52, vm_m53, vm_m54, vm_m55, vm_m56, vm_m57, vm_m58, vm_m59, vm_m60, vm_m61, vm_m62, vm_m63] : List vm_M), vm_mf q := List.forall_mem_cons.mpr ⟨vm_p48, List.forall_mem_cons.mpr ⟨vm_p49, List.forall_mem_cons.mpr ⟨vm_p50, List.forall_mem_cons.mpr ⟨vm_p51, List.forall_mem_cons.mpr ⟨vm_p52, List.forall_mem_cons.mpr ⟨vm_p53, List.forall_mem_cons.mpr ⟨vm_p54, List.forall_mem_cons.mpr ⟨vm_p55, List.forall_mem_cons.mpr ⟨vm_p56, List.forall_mem_cons.mpr ⟨vm_p57, List.forall_mem_cons.mpr ⟨vm_p58, List.forall_mem_cons.mpr ⟨vm_p59, List.forall_mem_cons.mpr ⟨vm_p60, List.forall_mem_cons.mpr ⟨vm_p61, List.forall_mem_cons.mpr ⟨vm_p62, List.forall_mem_cons.mpr ⟨vm_p63, fun _ h => absurd h List.not_mem_nil⟩⟩⟩⟩⟩⟩⟩⟩⟩⟩⟩⟩⟩⟩⟩⟩
theorem vm_MTp_4 : ∀ q ∈ ([vm_m64, vm_m65, vm_m66, vm_m67, vm_m68, vm_m69, vm_m70, vm_m71, vm_m72, vm_m73, vm_m74, vm_m75, vm_m76, vm_m77, vm_m78, vm_m79] : List vm_M), vm_mf q := List.forall_mem_cons.mpr ⟨vm_p64, List.forall_mem_cons.mpr ⟨vm_p65, List.forall_mem_cons.mpr ⟨vm_p66, List.forall_mem_cons.mpr ⟨vm_p67, List.forall_mem_cons.mpr ⟨vm_p68, List.forall_mem_cons.mpr ⟨vm_p69, List.forall_mem_cons.mpr ⟨vm_p70, List.forall_mem_cons.mpr ⟨vm_p71, List.forall_mem_cons.mpr ⟨vm_p72, List.forall_mem_cons.mpr ⟨vm_p73, List.forall_mem_cons.mpr ⟨vm_p74, List.forall_mem_cons.mpr ⟨vm_p75, List.forall_mem_cons.mpr ⟨vm_p76, List.forall_mem_cons.mpr ⟨vm_p77, List.forall_mem_cons.mpr ⟨vm_p78, List.forall_mem_cons.mpr ⟨vm_p79, fun _ h => absurd h List.not_mem_nil⟩⟩⟩⟩⟩⟩⟩⟩⟩⟩⟩⟩⟩⟩⟩⟩
theorem vm_MTp_5 : ∀ q ∈ ([vm_m80, vm_m81, vm_m82, vm_m83, vm_m84, vm_m85, vm_m86, vm_m87, vm_m88, vm_m89, vm_m90, vm_m91, vm_m92, vm_m93, vm_m94, vm_m95] : List vm_M), vm_mf q := List.forall_mem_cons.mpr ⟨vm_p80, List.forall_mem_cons.mpr ⟨vm_p81, List.forall_mem_cons.mpr ⟨vm_p82, List.forall_mem_cons.mpr ⟨vm_p83, List.forall_mem_cons.mpr ⟨vm_p84, List.forall_mem_cons.mpr ⟨vm_p85, List.forall_mem_cons.mpr ⟨vm_p86, List.forall_mem_cons.mpr ⟨vm_p87, List.forall_mem_cons.mpr ⟨vm_p88, List.forall_mem_cons.mpr ⟨vm_p89, List.forall_mem_cons.mpr ⟨vm_p90, List.forall_mem_cons.mpr ⟨vm_p91, List.forall_mem_cons.mpr ⟨vm_p92, List.forall_mem_cons.mpr ⟨vm_p93, List.forall_mem_cons.mpr ⟨vm_p94, List.forall_mem_cons.mpr ⟨vm_p95, fun _ h => absurd h List.not_mem_nil⟩⟩⟩⟩⟩⟩⟩⟩⟩⟩⟩⟩⟩⟩⟩⟩
theorem vm_MTp_6 : ∀ q ∈ ([vm_m96, vm_m97, vm_m98, vm_m99, vm_m100, vm_m101, vm_m102, vm_m103, vm_m104, vm_m105, vm_m106, vm_m107, vm_m108, vm_m109, vm_m110, vm_m111] : List vm_M), vm_mf q := List.forall_mem_cons.mpr ⟨vm_p96, List.forall_mem_cons.mpr ⟨vm_p97, List.forall_mem_cons.mpr ⟨vm_p98, List.forall_mem_cons.mpr ⟨vm_p99, List.forall_mem_cons.mpr ⟨vm_p100, List.forall_mem_cons.mpr ⟨vm_p101, List.forall_mem_cons.mpr ⟨vm_p102, List.forall_mem_cons.mpr ⟨vm_p103, List.forall_mem_cons.mpr ⟨vm_p104, List.forall_mem_cons.mpr ⟨vm_p105, List.forall_mem_cons.mpr ⟨vm_p106, List.forall_mem_cons.mpr ⟨vm_p107, List.forall_mem_cons.mpr ⟨vm_p108, List.forall_mem_cons.mpr ⟨vm_p109, List.forall_mem_cons.mpr ⟨vm_p110, List.forall_mem_cons.mpr ⟨vm_p111, fun _ h => absurd h List.not_mem_nil⟩⟩⟩⟩⟩⟩⟩⟩⟩⟩⟩⟩⟩⟩⟩⟩
theorem vm_MTp_7 : ∀ q ∈ ([vm_m112, vm_m113, vm_m114, vm_m115, vm_m116, vm_m117, vm_m118, vm_m119, vm_m120, vm_m121, vm_m122, vm_m123, vm_m124, vm_m125, vm_m126, vm_m127] : List vm_M), vm_mf q := List.forall_mem_cons.mpr ⟨vm_p112, List.forall_mem_cons.mpr ⟨vm_p113, List.forall_mem_cons.mpr ⟨vm_p114, List.forall_mem_cons.mpr ⟨vm_p115, List.forall_mem_cons.mpr ⟨vm_p116, List.forall_mem_cons.mpr ⟨vm_p117, List.forall_mem_cons.mpr ⟨vm_p118, List.forall_mem_cons.mpr ⟨vm_p119, List.forall_mem_cons.mpr ⟨vm_p120, List.forall_mem_cons.mpr ⟨vm_p121, List.forall_mem_cons.mpr ⟨vm_p122, List.forall_mem_cons.mpr ⟨vm_p123, List.forall_mem_cons.mpr ⟨vm_p124, List.forall_mem_cons.mpr ⟨vm_p125, List.forall_mem_cons.mpr ⟨vm_p126, List.forall_mem_cons.mpr ⟨vm_p127, fun _ h => absurd h List.not_mem_nil⟩⟩⟩⟩⟩⟩⟩⟩⟩⟩⟩⟩⟩⟩⟩⟩
theorem vm_MTp_8 : ∀ q ∈ ([vm_m128, vm_m129, vm_m130, vm_m131, vm_m132, vm_m133, vm_m134, vm_m135, vm_m136, vm_m137, vm_m138, vm_m139, vm_m140, vm_m141, vm_m142, vm_m143] : List vm_M), vm_mf q := List.forall_mem_cons.mpr ⟨vm_p128, List.forall_mem_cons.mpr ⟨vm_p129, List.forall_mem_cons.mpr ⟨vm_p130, List.forall_mem_cons.mpr ⟨vm_p131, List.forall_mem_cons.mpr ⟨vm_p132, List.forall_mem_cons.mpr ⟨vm_p133, List.forall_mem_cons.mpr ⟨vm_p134, List.forall_mem_cons.mpr ⟨vm_p135, List.forall_mem_cons.mpr ⟨vm_p136, List.forall_mem_cons.mpr ⟨vm_p137, List.forall_mem_cons.mpr ⟨vm_p138, List.forall_mem_cons.mpr ⟨vm_p139, List.forall_mem_cons.mpr ⟨vm_p140, List.forall_mem_cons.mpr ⟨vm_p141, List.forall_mem_cons.mpr ⟨vm_p142, List.forall_mem_cons.mpr ⟨vm_p143, fun _ h => absurd h List.not_mem_nil⟩⟩⟩⟩⟩⟩⟩⟩⟩⟩⟩⟩⟩⟩⟩⟩
theorem vm_MTp_9 : ∀ q ∈ ([vm_m144, vm_m145, vm_m146, vm_m147, vm_m148, vm_m149, vm_m150, vm_m151, vm_m152, vm_m153, vm_m154, vm_m155, vm_m156, vm_m157, vm_m158, vm_m159] : List vm_M), vm_mf q := List.forall_mem_cons.mpr ⟨vm_p144, List.forall_mem_cons.mpr ⟨vm_p145, List.forall_mem_cons.mpr ⟨vm_p146, List.forall_mem_cons.mpr ⟨vm_p147, List.forall_mem_cons.mpr ⟨vm_p148, List.forall_mem_cons.mpr ⟨vm_p149, List.forall_mem_cons.mpr ⟨vm_p150, List.forall_mem_cons.mpr ⟨vm_p151, List.forall_mem_cons.mpr ⟨vm_p152, List.forall_mem_cons.mpr ⟨vm_p153, List.forall_mem_cons.mpr ⟨vm_p154, List.forall_mem_cons.mpr ⟨vm_p155, List.forall_mem_cons.mpr ⟨vm_p156, List.forall_mem_cons.mpr ⟨vm_p157, List.forall_mem_cons.mpr ⟨vm_p158, List.forall_mem_cons.mpr ⟨vm_p159, fun _ h => absurd h List.not_mem_nil⟩⟩⟩⟩⟩⟩⟩⟩⟩⟩⟩⟩⟩⟩⟩⟩
theorem vm_MTp_10 : ∀ q ∈ ([vm_m160, vm_m161, vm_m162, vm_m163, vm_m164, vm_m165, vm_m166, vm_m167, vm_m168, vm_m169, vm_m170, vm_m171, vm_m172, vm_m173, vm_m174, vm_m175] : List vm_M), vm_mf q := List.forall_mem_cons.mpr ⟨vm_p160, List.forall_mem_cons.mpr ⟨vm_p161, List.forall_mem_cons.mpr ⟨vm_p162, List.forall_mem_cons.mpr ⟨vm_p163, List.forall_mem_cons.mpr ⟨vm_p164, List.forall_mem_cons.mpr ⟨vm_p165, List.forall_mem_cons.mpr ⟨vm_p166, List.forall_mem_cons.mpr ⟨vm_p167, List.forall_mem_cons.mpr ⟨vm_p168, List.forall_mem_cons.mpr ⟨vm_p169, List.forall_mem_cons.mpr ⟨vm_p170, List.forall_mem_cons.mpr ⟨vm_p171, List.forall_mem_cons.mpr ⟨vm_p172, List.forall_mem_cons.mpr ⟨vm_p173, List.forall_mem_cons.mpr ⟨vm_p174, List.forall_mem_cons.mpr ⟨vm_p175, fun _ h => absurd h List.not_mem_nil⟩⟩⟩⟩⟩⟩⟩⟩⟩⟩⟩⟩⟩⟩⟩⟩
theorem vm_MTp_11 : ∀ q ∈ ([vm_m176, vm_m177, vm_m178, vm_m179, vm_m180, vm_m181, vm_m182, vm_m183, vm_m184, vm_m185, vm_m186, vm_m187, vm_m188, vm_m189, vm_m190, vm_m191] : List vm_M), vm_mf q := List.forall_mem_cons.mpr ⟨vm_p176, List.forall_mem_cons.mpr ⟨vm_p177, List.forall_mem_cons.mpr ⟨vm_p178, List.forall_mem_cons.mpr ⟨vm_p179, List.forall_mem_cons.mpr ⟨vm_p180, List.forall_mem_cons.mpr ⟨vm_p181, List.forall_mem_cons.mpr ⟨vm_p182, List.forall_mem_cons.mpr ⟨vm_p183, List.forall_mem_cons.mpr ⟨vm_p184, List.forall_mem_cons.mpr ⟨vm_p185, List.forall_mem_cons.mpr ⟨vm_p186, List.forall_mem_cons.mpr ⟨vm_p187, List.forall_mem_cons.mpr ⟨vm_p188, List.forall_mem_cons.mpr ⟨vm_p189, List.forall_mem_cons.mpr ⟨vm_p190, List.forall_mem_cons.mpr ⟨vm_p191, fun _ h => absurd h List.not_mem_nil⟩⟩⟩⟩⟩⟩⟩⟩⟩⟩⟩⟩⟩⟩⟩⟩
theorem vm_MTp_12 : ∀ q ∈ ([vm_m192, vm_m193, vm_m194, vm_m195, vm_m196, vm_m197, vm_m198, vm_m199, vm_m200, vm_m201, vm_m202, vm_m203, vm_m204] : List vm_M), vm_mf q := List.forall_mem_cons.mpr ⟨vm_p192, List.forall_mem_cons.mpr ⟨vm_p193, List.forall_mem_cons.mpr ⟨vm_p194, List.forall_mem_cons.mpr ⟨vm_p195, List.forall_mem_cons.mpr ⟨vm_p196, List.forall_mem_cons.mpr ⟨vm_p197, List.forall_mem_cons.mpr ⟨vm_p198, List.forall_mem_cons.mpr ⟨vm_p199, List.forall_mem_cons.mpr ⟨vm_p200, List.forall_mem_cons.mpr ⟨vm_p201, List.forall_mem_cons.mpr ⟨vm_p202, List.forall_mem_cons.mpr ⟨vm_p203, List.forall_mem_cons.mpr ⟨vm_p204, fun _ h => absurd h List.not_mem_nil⟩⟩⟩⟩⟩⟩⟩⟩⟩⟩⟩⟩⟩
def vm_MC : List vm_M := [vm_m0, vm_m1, vm_m2, vm_m3, vm_m4, vm_m5, vm_m6, vm_m7, vm_m8, vm_m9, vm_m10, vm_m11, vm_m12, vm_m13, vm_m14, vm_m15] ++ ([vm_m16, vm_m17, vm_m18, vm_m19, vm_m20, vm_m21, vm_m22, vm_m23, vm_m24, vm_m25, vm_m26, vm_m27, vm_m28, vm_m29, vm_m30, vm_m31] ++ ([vm_m32, vm_m33, vm_m34, vm_m35, vm_m36, vm_m37, vm_m38, vm_m39, vm_m40, vm_m41, vm_m42, vm_m43, vm_m44, vm_m45, vm_m46, vm_m47] ++ ([vm_m48, vm_m49, vm_m50, vm_m51, vm_m52, vm_m53, vm_m54, vm_m55, vm_m56, vm_m57, vm_m58, vm_m59, vm_m60, vm_m61, vm_m62, vm_m63] ++ ([vm_m64, vm_m65, vm_m66, vm_m67, vm_m68, vm_m69, vm_m70, vm_m71, vm_m72, vm_m73, vm_m74, vm_m75, vm_m76, vm_m77, vm_m78, vm_m79] ++ ([vm_m80, vm_m81, vm_m82, vm_m83, vm_m84, vm_m85, vm_m86, vm_m87, vm_m88, vm_m89, vm_m90, vm_m91, vm_m92, vm_m93, vm_m94, vm_m95] ++ ([vm_m96, vm_m97, vm_m98, vm_m99, vm_m100, vm_m101, vm_m102, vm_m103, vm_m104, vm_m105, vm_m106, vm_m107, vm_m108, vm_m109, vm_m110, vm_m111] ++ ([vm_m112, vm_m113, vm_m114, vm_m115, vm_m116, vm_m117, vm_m118, vm_m119, vm_m120, vm_m121, vm_m122, vm_m123, vm_m124, vm_m125, vm_m126, vm_m127] ++ ([vm_m128, vm_m129, vm_m130, vm_m131, vm_m132, vm_m133, vm_m134, vm_m135, vm_m136, vm_m137, vm_m138, vm_m139, vm_m140, vm_m141, vm_m142, vm_m143] ++ ([vm_m144, vm_m145, vm_m146, vm_m147, vm_m148, vm_m149, vm_m150, vm_m151, vm_m152, vm_m153, vm_m154, vm_m155, vm_m156, vm_m157, vm_m158, vm_m159] ++ ([vm_m160, vm_m161, vm_m162, vm_m163, vm_m164, vm_m165, vm_m166, vm_m167, vm_m168, vm_m169, vm_m170, vm_m171, vm_m172, vm_m173, vm_m174, vm_m175] ++ ([vm_m176, vm_m177, vm_m178, vm_m179, vm_m180, vm_m181, vm_m182, vm_m183, vm_m184, vm_m185, vm_m186, vm_m187, vm_m188, vm_m189, vm_m190, vm_m191] ++ ([vm_m192, vm_m193, vm_m194, vm_m195, vm_m196, vm_m197, vm_m198, vm_m199, vm_m200, vm_m201, vm_m202, vm_m203, vm_m204]))))))))))))
set_option maxRecDepth 100000 in
theorem vm_MC_eq : vm_MT.take 205 = vm_MC := rfl
theorem vm_MC_ok : ∀ q ∈ vm_MC, vm_mf q := List.forall_mem_append.mpr ⟨vm_MTp_0, List.forall_mem_append.mpr ⟨vm_MTp_1, List.forall_mem_append.mpr ⟨vm_MTp_2, List.forall_mem_append.mpr ⟨vm_MTp_3, List.forall_mem_append.mpr ⟨vm_MTp_4, List.forall_mem_append.mpr ⟨vm_MTp_5, List.forall_mem_append.mpr ⟨vm_MTp_6, List.forall_mem_append.mpr ⟨vm_MTp_7, List.forall_mem_append.mpr ⟨vm_MTp_8, List.forall_mem_append.mpr ⟨vm_MTp_9, List.forall_mem_append.mpr ⟨vm_MTp_10, List.forall_mem_append.mpr ⟨vm_MTp_11, vm_MTp_12⟩⟩⟩⟩⟩⟩⟩⟩⟩⟩⟩⟩
theorem vm_callee {b : Nat} {r : vm_M} (hb : b < 205) (h : vm_MT[b]? = some r) : vm_mf r := by
  refine vm_MC_ok r ?_
  rw [← vm_MC_eq]
  refine List.mem_of_getElem? (i := b) ?_
  rw [List.getElem?_take, if_pos hb]
  exact h
