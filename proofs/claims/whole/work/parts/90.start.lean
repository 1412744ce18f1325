/-! THE CLAIM OUT OF ONE WALK OF THE LAW'S BODY. Your part is whole_start (and what it stands on); all else here is the same for every law, but numbers. -/
def R_law : String := "EmberTaleLaw"
def lw_P (b : Addr) (xs : List Int32) (args : Array Value) (s : State) : Prop := args = #[.ref b] ∧ s.IntsAt b xs ∧ xs.length ≤ 2560 ∧ (Jvm.Cond.and given_1 narrow_1).before args s = true
def lw_Q (_ : Array Value) (s : State) (o : Outcome) (t : State) : Prop := o = .returned (some (.int 1)) ∧ Framed s o t [] 600000 7302250
def lw_Z (below : List Frame) (a : Array Value) (s : State) : State → Prop := fun t => ∃ o, t.status = .running ∧ Ended t below o ∧ lw_Q a s o t
/-- the law's own end, with 1 on the stack, nothing written that was there before, its room as the claim has it -/
theorem lw_ret {p : Program} {l : Launch} {e : Env} {s : State} {m : MethodId} {below : List Frame} {meth : Method} {c : Code} {b : Nat} (hx : p.tables.exec = Jvm.exec) (hb : c.code = code) (hr : meth.sig.returnType = ret) (hlocks : meth.locks = false) {pc : Nat} {H : Heap} {ls : Array Slot} (hdg : decode code pc = .ok (.ireturn, 1)) : W p l e room_1 s m #[Value.ref b] below meth c H [] 600000 7302250 (lw_Z below #[Value.ref b] s) (F0 m pc ls [.int 1]) := by
  intro T hT X
  obtain ⟨fs, hret, hrun, hended, hW, hframe⟩ := X.leave (v := some (.int 1)) (hlocks := hlocks) (fun h => by rw [hr] at h; cases h)
  have hmeth' : T.vm.method? m = some meth := X.method'
  refine ⟨T.setFrames fs, ?_, .returned (some (.int 1)), hrun, hended, rfl, ⟨_, rfl⟩, hW, hframe⟩
  jvm_step X.here [X.here.top, hx, hb, hdg, hmeth', hr, ret, narrow_b1]
  (try refine ⟨rfl, ?_⟩); (try refine ⟨rfl, ?_⟩)
  first | (intro acts; rw [hret _ acts rfl rfl rfl]) | rw [hret _ _ rfl rfl rfl]
  exact Steps.refl _
/-- what holds at the law's entry: the machine, the code, the tables' words (any of lw_tbl by 'hts w (by decide +kernel)'), the script of L ints xs at the cell b, what the Statement gives of the start (any of its parts by flat_of_before) -/
def lw_At (p : Program) (s : State) (m : MethodId) (meth : Method) (c : Code) (b L : Nat) (xs : Nat → Int32) : Prop :=
  p.tables.exec = Jvm.exec ∧ c.code = code ∧ meth.sig.returnType = ret ∧ c.maxLocals = 4 ∧ s.vm.findClass R_law = some m.cls ∧ (∀ w ∈ lw_tbl, w.before #[Value.ref b] s = true) ∧ va_X b L xs s s.heap ∧ b < s.heap.size ∧ meth.locks = false ∧ (Jvm.Cond.and given_1 narrow_1).before #[Value.ref b] s = true
-- ===== YOUR PART BEGINS =====
theorem vm_made : ∀ a, a < 11 → ∃ o i, vm_nf o i a := by
  intro a h
  match a, h with
  | 0, _ => exact ⟨_, _, vm_n6⟩
  | 1, _ => exact ⟨_, _, vm_n18⟩
  | 2, _ => exact ⟨_, _, vm_n15⟩
  | 3, _ => exact ⟨_, _, vm_n17⟩
  | 4, _ => exact ⟨_, _, vm_n14⟩
  | 5, _ => exact ⟨_, _, vm_n0⟩
  | 6, _ => exact ⟨_, _, vm_n13⟩
  | 7, _ => exact ⟨_, _, vm_n5⟩
  | 8, _ => exact ⟨_, _, vm_n16⟩
  | 9, _ => exact ⟨_, _, vm_n19⟩
  | 10, _ => exact ⟨_, _, vm_n20⟩
def vm_w0 (L : Nat) (xs : Nat → Int32) : vm_W := (0, 0, fun i => if i = vm_scr then .inl (L, xs) else .inr (.inr (100, [])))
theorem vm_K0 {s : State} {args : Array Value} (hts : ∀ w ∈ vm_G, w.before args s = true) (hAO : va_AO RX0 s) : ∃ (D : va_G) (κ : Nat → ClassId), va_K D vwCl [(κ 0, .int), (κ 1, .object RX0)] s := by
  classical
  have hk : ∀ a, a < 11 → ∀ q : vw_C, vwCl[a]? = some q → ∃ (cC : ClassId) (iS : Nat → Nat), u_Kn s q.1 q.2.1 q.2.2 cC iS := by
    intro a ha q hq
    obtain ⟨C, T, N, h1, h2, -, -⟩ := vm_clsA a ha
    cases hq.symm.trans h1
    obtain ⟨o, i, hi⟩ := vm_made a ha
    obtain ⟨own, C', T', N', -, g2, -, g4, -⟩ := hi
    cases hq.symm.trans g2
    exact u_known hts h2 (hts _ g4)
  have hk2 : ∃ (dC : Nat → ClassId) (dI : Nat → Nat → Nat), ∀ (k : Nat) (q : vw_C), vwCl[k]? = some q → u_Kn s q.1 q.2.1 q.2.2 (dC k) (dI k) := by
    refine ⟨fun k => if h : ∃ (cC : ClassId) (iS : Nat → Nat), ∀ q : vw_C, vwCl[k]? = some q → u_Kn s q.1 q.2.1 q.2.2 cC iS then h.choose else 0, fun k => if h : ∃ (cC : ClassId) (iS : Nat → Nat), ∀ q : vw_C, vwCl[k]? = some q → u_Kn s q.1 q.2.1 q.2.2 cC iS then h.choose_spec.choose else fun _ => 0, ?_⟩
    intro k q hq
    have ha : k < 11 := (List.getElem?_eq_some_iff.mp hq).1
    have h : ∃ (cC : ClassId) (iS : Nat → Nat), ∀ q : vw_C, vwCl[k]? = some q → u_Kn s q.1 q.2.1 q.2.2 cC iS := by
      obtain ⟨cC, iS, h⟩ := hk k ha q hq
      exact ⟨cC, iS, fun q' hq' => by cases hq.symm.trans hq'; exact h⟩
    dsimp only
    rw [dif_pos h, dif_pos h]
    exact h.choose_spec.choose_spec q hq
  obtain ⟨dC, dI, hKc⟩ := hk2
  obtain ⟨cI, kI, compI, i1, i2, i3⟩ := Cond.arrayClass_spec (show (Cond.arrayClass .int).holds args s none s [] = true from hts _ vm_arrI)
  obtain ⟨compC, cC, kC, c1, -, c3, c4, c5⟩ := Cond.arrayOver_spec (show (Cond.arrayOver (.object RX0)).holds #[] s none s [] = true from hAO)
  refine ⟨(dC, dI), fun k => if k = 0 then cI else cC, hKc, fun k q hq => ?_⟩
  match k, hq with
  | 0, hq =>
    cases hq
    exact ⟨fun n z => ⟨fun k h => (by cases h), kI, i2, compI, i3⟩, i1⟩
  | 1, hq =>
    cases hq
    exact ⟨fun n z => ⟨fun k h => (by cases h), kC, c3, compC, c4⟩, kC, compC, c3, c4, c1, c5⟩
  | k + 2, hq => simp at hq
theorem vm_narrowBytes : ∀ j, j < 88 → Cond.eq (.elem (.field (.string "EmberTale" 89) "java/lang/String" "value" "[B") (.int (Int32.ofNat j))) (.int (([vm_byt].getD 0 []).getD j 0)) ∈ flatC (Jvm.Cond.and given_1 narrow_1) := by decide +kernel
set_option maxHeartbeats 4000000 in
theorem vm_SI0 {s : State} {b : Nat} (hts : ∀ w ∈ lw_tbl, w.before #[Value.ref b] s = true) (hgv : (Jvm.Cond.and given_1 narrow_1).before #[Value.ref b] s = true) : ∃ adS adV, vm_SI adS adV s.heap.size s := by
  have hs := flat_of_before _ hgv
  have hA : ∀ a : Nat, a < s.heap.size → ¬ (fun q : Nat => s.heap.size ≤ q) a := fun a h => Nat.not_le.mpr h
  obtain ⟨adK, adV, hS, hev⟩ := vk_Sof (args := #[Value.ref b]) (s := s) (N := 1) (tm := fun _ => Term.string "EmberTale" 89) (len := [vm_txt.length]) (byt := [vm_byt]) (A := fun q => s.heap.size ≤ q)
    (fun i hi => by rw [show i = 0 by omega]; show vm_txt.length < 2 ^ 31; rw [vm_txt_len]; decide)
    (fun i hi => hs _ (by decide +kernel)) (fun i hi => hs _ (by decide +kernel)) (fun i hi => hs _ (by decide +kernel))
    (fun i hi => by rw [show i = 0 by omega]; exact hs _ (by decide +kernel))
    (fun i hi j hj => by
      have hi0 : i = 0 := by omega
      subst hi0
      have hj : j < vm_txt.length := hj
      rw [vm_txt_len] at hj
      exact hs _ (vm_narrowBytes j hj))
    (fun i j hi hj h => absurd (show i = j by omega) h) hA
  refine ⟨adK 0, adV 0, vk_R.of (hts _ (List.mem_of_getElem? (i := 280) (by decide +kernel))) (hev 0 (by decide)), ⟨fun i hi => by rw [show i = 0 by omega]; exact hS.1 0 (by decide), fun i j hi hj _ => by omega⟩, va_Zof (args := #[Value.ref b]) (hts _ (List.mem_of_getElem? (i := 290) (by decide +kernel))) (hts _ (wsL_law_in _ vm_sl4)) (va_eqt (hs _ (by decide +kernel))) hA, va_Zqof (args := #[Value.ref b]) (hts _ (List.mem_of_getElem? (i := 306) (by decide +kernel))) (hts _ (List.mem_of_getElem? (i := 68) (by decide +kernel))) (hs _ (by decide +kernel)) hA⟩
theorem vm_nest0 {s : State} {b : Nat} (hts : ∀ w ∈ lw_tbl, w.before #[Value.ref b] s = true) : ∀ q ∈ vm_nest, va_Nw (.methodLinkNest q.1 q.2.1 q.2.2.1 q.2.2.2) s :=
  List.forall_mem_cons.mpr ⟨va_Nw.of rfl (hts _ (List.mem_of_getElem? (i := 99) (by decide +kernel))), List.forall_mem_cons.mpr ⟨va_Nw.of rfl (hts _ (List.mem_of_getElem? (i := 168) (by decide +kernel))), List.forall_mem_cons.mpr ⟨va_Nw.of rfl (hts _ (List.mem_of_getElem? (i := 401) (by decide +kernel))), List.forall_mem_cons.mpr ⟨va_Nw.of rfl (hts _ (List.mem_of_getElem? (i := 414) (by decide +kernel))), List.forall_mem_cons.mpr ⟨va_Nw.of rfl (hts _ (List.mem_of_getElem? (i := 531) (by decide +kernel))), fun _ h => absurd h List.not_mem_nil⟩⟩⟩⟩⟩
theorem vm_AO0 {s : State} {b : Nat} (hts : ∀ w ∈ lw_tbl, w.before #[Value.ref b] s = true) : va_AO RX0 s := va_AO.of (hts _ (List.mem_of_getElem? (i := 147) (by decide +kernel)))
theorem vm_law : ∀ (L : Nat) (xs : Nat → Int32), L ≤ 2560 → ∃ F wF, vm_run F 2000 205 0 (vm_ent 4 [.ref vm_scr]) [] (vm_w0 L xs) = some (some (.int 1), wF) ∧ wF.1 ≤ 600000 ∧ wF.2.1 ≤ 7302250 := by
  intro L xs hL
  obtain ⟨F, v, s', h, hv⟩ := law_loop (X := (L, xs)) (d := 2000) (by show (L : Int) ≤ 2560; omega) (by decide) 0 ct_s Rel_0 (by show 5 * 0 ≤ (L : Int); omega)
  subst hv
  obtain ⟨F', h'⟩ := law_begin L xs (vm_w0 L xs) rfl ⟨F, h⟩
  exact ⟨F', conc (L, xs) s', h', by show (113 : Nat) ≤ 600000; decide, by show (2515 : Nat) ≤ 7302250; decide⟩
theorem whole_start {p : Program} {e : Env} {s : State} {m : MethodId} {below : List Frame} {meth : Method} {c : Code} (l : Launch) (hflags : l.flags = flags0) {b L : Nat} {xs : Nat → Int32} (hL : L ≤ 2560) (C0 : lw_At p s m meth c b L xs) : W p l e room_1 s m #[Value.ref b] below meth c s.heap [] 0 0 (lw_Z below #[Value.ref b] s) (entryFrame m ([Value.ref b] : List Value).toArray 4) := by
  obtain ⟨hx, hb, hr, hml, hown, hts, hX, hbl, hlocks, hgv⟩ := id C0
  have hG : ∀ w ∈ vm_G, w.before #[Value.ref b] s = true := fun w h => hts w (wsL_law_in w h)
  have hAO := vm_AO0 hts
  obtain ⟨D, κ, hK⟩ := vm_K0 hG hAO
  obtain ⟨adS, adV, hSI⟩ := vm_SI0 hts hgv
  obtain ⟨F, wF, hrun, hc1, hc2⟩ := vm_law L xs hL
  have C : vm_C D κ s.heap.size b adS adV L xs p s m #[Value.ref b] meth c vm_m205 := ⟨hx, hb, hml, hown, hG, hK, hAO, vm_nest0 hts, fun z => absurd z (by decide), hr, hlocks, hX, hbl, hSI⟩
  have hH0 : vm_H D κ s.heap.size b adS L xs (vm_w0 L xs) s.heap := ⟨rfl, Nat.zero_le _, rfl, fun i hi => absurd hi (Nat.not_lt_zero _)⟩
  have K := vm_run_W l F 2000 205 0 (vm_ent 4 [.ref vm_scr]) [] (vm_w0 L xs) _ wF hrun vm_m205 rfl p e room_1 s m #[Value.ref b] below meth c s.heap [] (lw_Z below #[Value.ref b] s) κ D s.heap.size b adS adV L xs 0 0 _ C ⟨by decide, by decide⟩ ⟨Nat.le_refl _, Nat.le_refl _⟩ ⟨by show wF.1 ≤ 0 + 600000; omega, by show wF.2.1 ≤ 0 + 7302250; omega⟩ (vm_entry (by decide)) ⟨hH0, ⟨Nat.le_refl _, Nat.le_refl _⟩, fun _ _ => rfl, fun _ h => by cases h⟩ ?_
  · rw [lg_entry_eq]
    exact K
  · intro q st1 lsr1 H1 locs1 hq hret hT1
    obtain ⟨t1, t2, t3, t4⟩ := hT1
    obtain ⟨o, ho, hdec, hchk, hm20, hcl⟩ := vm_o205
    have hdg := hdec q hq
    rcases vm_ret_i hret with ⟨x, e1, rfl, e2, ty, e3, e4⟩ | ⟨x, n, e1, rfl, e2, e3⟩ | ⟨e1, rfl, e2, e3⟩
    · cases e2
      rw [e1] at hdg
      refine va_forget t4 (W.widen (k := 600000) (n := 7302250) (by omega) (by omega) ?_)
      exact lw_ret hx hb hr hlocks (vm_len1 hchk hq (Or.inl e1) hdg)
    · cases e2
    · cases e2
