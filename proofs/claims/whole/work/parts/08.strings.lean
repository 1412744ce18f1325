/-! the literal: where it lies; its length() and charAt(j) -/
def vm_tx : String := "t1203;t2194;t4330;t0952;t5149;t9995;r0;r1;r0;r2;c0,9,3,2,1,2;c2,5,1,4,2,0;c0,12,0,0,3,3;"
def vm_byt : List Int32 := vm_txt
def vm_SI (adS adV base : Nat) (U : State) : Prop :=
  vk_R RX10 89 vm_tx adS U ∧ vk_S 1 [vm_txt.length] [vm_byt] (fun _ => adS) (fun _ => adV) (fun q => base ≤ q) U U.heap ∧ va_Z "java/lang/String" "COMPACT_STRINGS" "Z" (.int 1) (fun q => base ≤ q) U U.heap ∧ va_Zq "jdk/internal/util/Preconditions" "SIOOBE_FORMATTER" "Ljava/util/function/BiFunction;" (fun q => base ≤ q) U U.heap
theorem vm_SI_mv {adS adV base : Nat} {s U : State} {H : Heap} (h : vm_SI adS adV base s) (hW : s.WarmedH U.vm) (hb : base ≤ s.heap.size) (hU : U.heap = H) (hH : ∀ q : Nat, q < base → H[q]? = s.heap[q]?) : vm_SI adS adV base U := by
  have hk : ∀ a : Nat, a < s.heap.size → ¬ base ≤ a → U.heap[a]? = s.heap[a]? := fun a _ ha => by rw [hU]; exact hH a (Nat.lt_of_not_le ha)
  exact ⟨vk_R.warm hW h.1, (h.2.1.moved hW.alike).kept hk, (h.2.2.1.moved hW.alike).kept hk, (h.2.2.2.moved hW.alike).kept hk⟩
def vm_SJ (adS adV base : Nat) (U : State) : Prop := vm_SI adS adV base U ∧ base ≤ U.heap.size
def vm_rmS : Room := { frames := 8, cells := 0, slots := 0, locals := 340 }
def vm_rmk (k : Nat) : Room := { frames := k, cells := 0, slots := 0, locals := 40 * k }
def vm_QcV : Array Value → State → Outcome → State → Prop := fun _ st o t => o = .returned none ∧ t.heap = st.heap
theorem vm_callV0 {p : Program} {l : Launch} {e : Env} {R : Room} {s : State} {m : MethodId} {args : Array Value} {below : List Frame} {meth : Method} {c : Code} {H : Heap} {locs : List Loc} {cells slots : Nat} {Q : State → Prop} {g : JFrame} {rest : List Value} {a : Array Value}
    (hr : CallRun p l e R s m args below meth c H locs cells slots 0 0 g rest (vm_QcV a) (fun _ => False)) (kk : W p l e R s m args below meth c H locs cells slots Q { g with pc := g.pc + 3, stack := rest }) : W p l e R s m args below meth c H locs cells slots Q g := by
  intro T hT X
  obtain ⟨v, st₀, t, T', L, h0, X', hL, e1, ⟨q1, q2⟩, stp⟩ := hr T hT X
  cases q1
  have hn : L = [] := List.eq_nil_iff_forall_not_mem.mpr hL
  subst hn
  rw [List.append_nil] at X'
  obtain ⟨t2, a1, b1⟩ := kk T' (by rw [e1, q2, h0]) X'
  exact ⟨t2, stp t2 a1, b1⟩
theorem vm_byt_ok : ∀ z ∈ vm_txt, ((z &&& 255).toUInt32 % 65536).toInt32 = z ∧ narrow .char (.int z) = .int z := by decide +kernel
theorem vm_txt_len : vm_txt.length = 88 := by decide +kernel
def vm_w_prec : List Cond := Cond.code yJ3_checkIndex_8e157 cJ3_checkIndex_8e157 3 (some .int) :: vm_G
set_option maxHeartbeats 1000000 in
theorem vm_c_precN (l : Launch) (base adS adV : Nat) (j n : Int32) (h0 : ¬ j < 0) (h1 : j < n) : Met l yJ3_checkIndex_8e157 vm_w_prec (vm_rmk 0) (fun a U => a = #[.int j, .int n, .null] ∧ vm_SJ adS adV base U) (QcRead j) 0 0 (fun _ => False) := by
  refine va_MetF (cc := cJ3_checkIndex_8e157) (maxL := 3) (ret := (some .int)) (by decide +kernel) rfl ?_
  intro p e s m args below meth c s₁ B hml hP
  obtain ⟨rfl, hSI, hbs⟩ := hP
  have hx := B.exec
  have hb := B.bytes
  have hts0 := atoms_spec (ws := vm_w_prec) B.pre
  have hts : ∀ w ∈ vm_G, w.before _ s = true := fun w h => hts0 w (List.mem_cons_of_mem _ h)
  have hown : s.vm.findClass RJ3 = some m.cls := findClass_of_methodNamed B.named
  have hlocks := B.notSynchronized
  have hr := B.returns
  have hS : va_S (fun q => base ≤ q) s.heap s.heap [] := va_S.rf
  have hl := lv_entry ([.int j, .int n, .null]) (n := 3) (Nat.le_of_ble_eq_true rfl)
  show W p l e _ s m _ below meth c s.heap [] 0 0 _ (entryFrame m ([.int j, .int n, .null] : List Value).toArray 3)
  rw [lg_entry_eq]
  generalize (lg_sl ([.int j, .int n, .null]) ++ List.replicate (3 - (lg_sl ([.int j, .int n, .null])).length) Slot.unset).toArray = ls at hl ⊢
  have hl : lv_has ls 3 [(0, .int j), (1, .int n), (2, .null)] := hl
  refine lv_iload_n hx hb (show decode cJ3_checkIndex_8e157 0 = .ok (.iload_n 0, 1) by decide +kernel) rfl (lv_at hl 0 rfl) ?_
  refine lv_if_lt hx hb (show decode cJ3_checkIndex_8e157 1 = .ok (.ifCond .lt 8, 3) by decide +kernel) (tgt := 9) rfl (fun h => absurd h h0) (fun _ => ?_)
  refine lv_iload_n hx hb (show decode cJ3_checkIndex_8e157 4 = .ok (.iload_n 0, 1) by decide +kernel) rfl (lv_at hl 0 rfl) ?_
  refine lv_iload_n hx hb (show decode cJ3_checkIndex_8e157 5 = .ok (.iload_n 1, 1) by decide +kernel) rfl (lv_at hl 1 rfl) ?_
  refine lv_icmp_lt hx hb (show decode cJ3_checkIndex_8e157 6 = .ok (.if_icmp .lt 10, 3) by decide +kernel) (tgt := 16) rfl (fun _ => ?_) (fun h => absurd h1 h)
  refine lv_iload_n hx hb (show decode cJ3_checkIndex_8e157 16 = .ok (.iload_n 0, 1) by decide +kernel) rfl (lv_at hl 0 rfl) ?_
  exact W.iret hx hb hr (fun t ht hW => ⟨rfl, ht⟩) (fun _ h => by cases h) (show decode cJ3_checkIndex_8e157 17 = .ok (.ireturn, 1) by decide +kernel)
set_option maxHeartbeats 1000000 in
theorem vm_c_precR (l : Launch) (base adS adV : Nat) (ax : Nat) (j n : Int32) (h0 : ¬ j < 0) (h1 : j < n) : Met l yJ3_checkIndex_8e157 vm_w_prec (vm_rmk 0) (fun a U => a = #[.int j, .int n, .ref ax] ∧ vm_SJ adS adV base U) (QcRead j) 0 0 (fun _ => False) := by
  refine va_MetF (cc := cJ3_checkIndex_8e157) (maxL := 3) (ret := (some .int)) (by decide +kernel) rfl ?_
  intro p e s m args below meth c s₁ B hml hP
  obtain ⟨rfl, hSI, hbs⟩ := hP
  have hx := B.exec
  have hb := B.bytes
  have hts0 := atoms_spec (ws := vm_w_prec) B.pre
  have hts : ∀ w ∈ vm_G, w.before _ s = true := fun w h => hts0 w (List.mem_cons_of_mem _ h)
  have hown : s.vm.findClass RJ3 = some m.cls := findClass_of_methodNamed B.named
  have hlocks := B.notSynchronized
  have hr := B.returns
  have hS : va_S (fun q => base ≤ q) s.heap s.heap [] := va_S.rf
  have hl := lv_entry ([.int j, .int n, .ref ax]) (n := 3) (Nat.le_of_ble_eq_true rfl)
  show W p l e _ s m _ below meth c s.heap [] 0 0 _ (entryFrame m ([.int j, .int n, .ref ax] : List Value).toArray 3)
  rw [lg_entry_eq]
  generalize (lg_sl ([.int j, .int n, .ref ax]) ++ List.replicate (3 - (lg_sl ([.int j, .int n, .ref ax])).length) Slot.unset).toArray = ls at hl ⊢
  have hl : lv_has ls 3 [(0, .int j), (1, .int n), (2, .ref ax)] := hl
  refine lv_iload_n hx hb (show decode cJ3_checkIndex_8e157 0 = .ok (.iload_n 0, 1) by decide +kernel) rfl (lv_at hl 0 rfl) ?_
  refine lv_if_lt hx hb (show decode cJ3_checkIndex_8e157 1 = .ok (.ifCond .lt 8, 3) by decide +kernel) (tgt := 9) rfl (fun h => absurd h h0) (fun _ => ?_)
  refine lv_iload_n hx hb (show decode cJ3_checkIndex_8e157 4 = .ok (.iload_n 0, 1) by decide +kernel) rfl (lv_at hl 0 rfl) ?_
  refine lv_iload_n hx hb (show decode cJ3_checkIndex_8e157 5 = .ok (.iload_n 1, 1) by decide +kernel) rfl (lv_at hl 1 rfl) ?_
  refine lv_icmp_lt hx hb (show decode cJ3_checkIndex_8e157 6 = .ok (.if_icmp .lt 10, 3) by decide +kernel) (tgt := 16) rfl (fun _ => ?_) (fun h => absurd h1 h)
  refine lv_iload_n hx hb (show decode cJ3_checkIndex_8e157 16 = .ok (.iload_n 0, 1) by decide +kernel) rfl (lv_at hl 0 rfl) ?_
  exact W.iret hx hb hr (fun t ht hW => ⟨rfl, ht⟩) (fun _ h => by cases h) (show decode cJ3_checkIndex_8e157 17 = .ok (.ireturn, 1) by decide +kernel)
def vm_w_chk : List Cond := Cond.code yJ0_checkIndex_df160 cJ0_checkIndex_df160 2 none :: vm_G
set_option maxHeartbeats 1000000 in
theorem vm_c_chk (l : Launch) (base adS adV : Nat) (j n : Int32) (h0 : ¬ j < 0) (h1 : j < n) : Met l yJ0_checkIndex_df160 vm_w_chk (vm_rmk 1) (fun a U => a = #[.int j, .int n] ∧ vm_SJ adS adV base U) vm_QcV 0 0 (fun _ => False) := by
  refine va_MetF (cc := cJ0_checkIndex_df160) (maxL := 2) (ret := none) (by decide +kernel) rfl ?_
  intro p e s m args below meth c s₁ B hml hP
  obtain ⟨rfl, hSI, hbs⟩ := hP
  have hx := B.exec
  have hb := B.bytes
  have hts0 := atoms_spec (ws := vm_w_chk) B.pre
  have hts : ∀ w ∈ vm_G, w.before _ s = true := fun w h => hts0 w (List.mem_cons_of_mem _ h)
  have hown : s.vm.findClass RJ0 = some m.cls := findClass_of_methodNamed B.named
  have hlocks := B.notSynchronized
  have hr := B.returns
  have hS : va_S (fun q => base ≤ q) s.heap s.heap [] := va_S.rf
  have hl := lv_entry ([.int j, .int n]) (n := 2) (Nat.le_of_ble_eq_true rfl)
  show W p l e _ s m _ below meth c s.heap [] 0 0 _ (entryFrame m ([.int j, .int n] : List Value).toArray 2)
  rw [lg_entry_eq]
  generalize (lg_sl ([.int j, .int n]) ++ List.replicate (2 - (lg_sl ([.int j, .int n])).length) Slot.unset).toArray = ls at hl ⊢
  have hl : lv_has ls 2 [(0, .int j), (1, .int n)] := hl
  refine lv_iload_n hx hb (show decode cJ0_checkIndex_df160 0 = .ok (.iload_n 0, 1) by decide +kernel) rfl (lv_at hl 0 rfl) ?_
  refine lv_iload_n hx hb (show decode cJ0_checkIndex_df160 1 = .ok (.iload_n 1, 1) by decide +kernel) rfl (lv_at hl 1 rfl) ?_
  have hZ : ∃ v : Value, (v = .null ∨ ∃ a, v = .ref a) ∧ va_Z "jdk/internal/util/Preconditions" "SIOOBE_FORMATTER" "Ljava/util/function/BiFunction;" v (fun q => base ≤ q) s s.heap := hSI.2.2.2.elim (fun h => ⟨_, Or.inl rfl, h⟩) (fun ⟨t, h⟩ => ⟨_, Or.inr ⟨t, rfl⟩, h⟩)
  obtain ⟨v, hv, hZ⟩ := hZ
  refine va_gets hx hb hZ hS hown (hts (.fieldLink RJ0 1053 "jdk/internal/util/Preconditions" "SIOOBE_FORMATTER" "Ljava/util/function/BiFunction;") (vm_r7 _ (List.mem_of_getElem? (i := 21) rfl))) (fun _ h => h) (show decode cJ0_checkIndex_df160 2 = .ok (.getstatic 1053, 3) by decide +kernel) ?_
  rcases hv with rfl | ⟨ax, rfl⟩
  · refine W.callR (a := ([.int j, .int n, .null] : List Value).toArray) (W.runS (As := [.int j, .int n, .null]) (rest := []) ⟨hx, hb, hml, hown, hts⟩ (vm_c_precN l base adS adV j n h0 h1) ⟨callB_of 3 hts (fun x hxm => (List.mem_cons.mp hxm).elim (fun z => z ▸ vm_GG _ (vm_r8 _ (List.mem_of_getElem? (i := 1) rfl))) (fun z => vm_GG x z)) rfl rfl rfl (hts _ (vm_r8 _ (List.mem_of_getElem? (i := 0) rfl))) (hts _ (vm_r7 _ (List.mem_of_getElem? (i := 22) rfl))) ⟨by decide +kernel, by decide +kernel, by decide +kernel⟩ ⟨Nat.le_of_ble_eq_true rfl, Nat.le_of_ble_eq_true rfl⟩, hts _ (vm_r7 _ (List.mem_of_getElem? (i := 23) rfl))⟩ ⟨fun a U g mk z => z, fun U hU hW => ⟨rfl, vm_SI_mv hSI hW hbs hU (fun _ _ => rfl), by rw [hU]; exact hbs⟩⟩ rfl rfl hl.1 rfl (Nat.le_of_ble_eq_true rfl) (show decode cJ0_checkIndex_df160 5 = .ok (.invokestatic 1059, 3) by decide +kernel) ⟨Nat.zero_le _, Nat.zero_le _⟩) ?_
    refine lv_pop hx hb (show decode cJ0_checkIndex_df160 8 = .ok (.pop, 1) by decide +kernel) rfl ?_
    exact W.vret hx hb hr (fun t ht hW => ⟨rfl, ht⟩) (fun _ h => by cases h) (show decode cJ0_checkIndex_df160 9 = .ok (.return_, 1) by decide +kernel)
  · refine W.callR (a := ([.int j, .int n, .ref ax] : List Value).toArray) (W.runS (As := [.int j, .int n, .ref ax]) (rest := []) ⟨hx, hb, hml, hown, hts⟩ (vm_c_precR l base adS adV ax j n h0 h1) ⟨callB_of 3 hts (fun x hxm => (List.mem_cons.mp hxm).elim (fun z => z ▸ vm_GG _ (vm_r8 _ (List.mem_of_getElem? (i := 1) rfl))) (fun z => vm_GG x z)) rfl rfl rfl (hts _ (vm_r8 _ (List.mem_of_getElem? (i := 0) rfl))) (hts _ (vm_r7 _ (List.mem_of_getElem? (i := 22) rfl))) ⟨by decide +kernel, by decide +kernel, by decide +kernel⟩ ⟨Nat.le_of_ble_eq_true rfl, Nat.le_of_ble_eq_true rfl⟩, hts _ (vm_r7 _ (List.mem_of_getElem? (i := 23) rfl))⟩ ⟨fun a U g mk z => z, fun U hU hW => ⟨rfl, vm_SI_mv hSI hW hbs hU (fun _ _ => rfl), by rw [hU]; exact hbs⟩⟩ rfl rfl hl.1 rfl (Nat.le_of_ble_eq_true rfl) (show decode cJ0_checkIndex_df160 5 = .ok (.invokestatic 1059, 3) by decide +kernel) ⟨Nat.zero_le _, Nat.zero_le _⟩) ?_
    refine lv_pop hx hb (show decode cJ0_checkIndex_df160 8 = .ok (.pop, 1) by decide +kernel) rfl ?_
    exact W.vret hx hb hr (fun t ht hW => ⟨rfl, ht⟩) (fun _ h => by cases h) (show decode cJ0_checkIndex_df160 9 = .ok (.return_, 1) by decide +kernel)
def vm_w_lat : List Cond := Cond.code yJ1_charAt_3b067 cJ1_charAt_3b067 2 (some .char) :: vm_G
set_option maxHeartbeats 1000000 in
theorem vm_c_lat (l : Launch) (base adS adV : Nat) (j z : Int32) (h0 : ¬ j < 0) (hz : vm_txt[j.toNatClampNeg]? = some z) : Met l yJ1_charAt_3b067 vm_w_lat (vm_rmk 2) (fun a U => a = #[.ref adV, .int j] ∧ vm_SJ adS adV base U) (QcRead z) 0 0 (fun _ => False) := by
  refine va_MetF (cc := cJ1_charAt_3b067) (maxL := 2) (ret := (some .char)) (by decide +kernel) rfl ?_
  intro p e s m args below meth c s₁ B hml hP
  obtain ⟨rfl, hSI, hbs⟩ := hP
  have hx := B.exec
  have hb := B.bytes
  have hts0 := atoms_spec (ws := vm_w_lat) B.pre
  have hts : ∀ w ∈ vm_G, w.before _ s = true := fun w h => hts0 w (List.mem_cons_of_mem _ h)
  have hown : s.vm.findClass RJ1 = some m.cls := findClass_of_methodNamed B.named
  have hlocks := B.notSynchronized
  have hr := B.returns
  have hS : va_S (fun q => base ≤ q) s.heap s.heap [] := va_S.rf
  have hl := lv_entry ([.ref adV, .int j]) (n := 2) (Nat.le_of_ble_eq_true rfl)
  show W p l e _ s m _ below meth c s.heap [] 0 0 _ (entryFrame m ([.ref adV, .int j] : List Value).toArray 2)
  rw [lg_entry_eq]
  generalize (lg_sl ([.ref adV, .int j]) ++ List.replicate (2 - (lg_sl ([.ref adV, .int j])).length) Slot.unset).toArray = ls at hl ⊢
  have hl : lv_has ls 2 [(0, .ref adV), (1, .int j)] := hl
  have hlt : j.toNatClampNeg < 88 := by rw [← vm_txt_len]; exact (List.getElem?_eq_some_iff.mp hz).1
  have h1 : j < 88 := by
    rw [Int32.lt_iff_toInt_lt]
    have a1 : j.toInt.toNat < 88 := hlt
    have a2 : (88 : Int32).toInt = 88 := by decide
    rw [a2]; omega
  have hT := (hSI.2.1.1 0 (by decide)).2.2.2
  have hzm := vm_byt_ok z (List.mem_of_getElem? hz)
  have hin : vp_in j ([vm_txt.length].getD 0 0) := by
    show ¬ (j < 0 ∨ vm_txt.length ≤ j.toNatClampNeg)
    rw [vm_txt_len]
    rintro (h | h)
    · exact h0 h
    · omega
  refine lv_iload_n hx hb (show decode cJ1_charAt_3b067 0 = .ok (.iload_n 1, 1) by decide +kernel) rfl (lv_at hl 1 rfl) ?_
  refine lv_aload_n hx hb (show decode cJ1_charAt_3b067 1 = .ok (.aload_n 0, 1) by decide +kernel) rfl (lv_at hl 0 rfl) ?_
  refine va_tlen (v := 88) hx hb hT hS (by show Int32.ofNat vm_txt.length = 88; rw [vm_txt_len]; rfl) (show decode cJ1_charAt_3b067 2 = .ok (.arraylength, 1) by decide +kernel) ?_
  refine vm_callV0 (a := ([.int j, .int 88] : List Value).toArray) (W.runS (As := [.int j, .int 88]) (rest := []) ⟨hx, hb, hml, hown, hts⟩ (vm_c_chk l base adS adV j 88 h0 h1) ⟨callB_of 2 hts (fun x hxm => (List.mem_cons.mp hxm).elim (fun z => z ▸ vm_GG _ (vm_r7 _ (List.mem_of_getElem? (i := 20) rfl))) (fun z => vm_GG x z)) rfl rfl rfl (hts _ (vm_r6 _ (List.mem_of_getElem? (i := 21) rfl))) (hts _ (vm_r7 _ (List.mem_of_getElem? (i := 18) rfl))) ⟨by decide +kernel, by decide +kernel, by decide +kernel⟩ ⟨Nat.le_of_ble_eq_true rfl, Nat.le_of_ble_eq_true rfl⟩, hts _ (vm_r7 _ (List.mem_of_getElem? (i := 19) rfl))⟩ ⟨fun a U g mk z => z, fun U hU hW => ⟨rfl, vm_SI_mv hSI hW hbs hU (fun _ _ => rfl), by rw [hU]; exact hbs⟩⟩ rfl rfl hl.1 rfl (Nat.le_of_ble_eq_true rfl) (show decode cJ1_charAt_3b067 3 = .ok (.invokestatic 9, 3) by decide +kernel) ⟨Nat.zero_le _, Nat.zero_le _⟩) ?_
  refine lv_aload_n hx hb (show decode cJ1_charAt_3b067 6 = .ok (.aload_n 0, 1) by decide +kernel) rfl (lv_at hl 0 rfl) ?_
  refine lv_iload_n hx hb (show decode cJ1_charAt_3b067 7 = .ok (.iload_n 1, 1) by decide +kernel) rfl (lv_at hl 1 rfl) ?_
  refine va_tb (v := .int z) hx hb hT hS hin (by show Value.int (([vm_byt].getD 0 []).getD j.toNatClampNeg 0) = .int z; rw [List.getD_eq_getElem?_getD]; show Value.int ((vm_txt[j.toNatClampNeg]?).getD 0) = _; rw [hz]; rfl) (show decode cJ1_charAt_3b067 8 = .ok (.baload, 1) by decide +kernel) ?_
  refine lv_sipush (v := 255) hx hb (show decode cJ1_charAt_3b067 9 = .ok (.sipush 255, 3) by decide +kernel) (by decide) ?_
  refine lv_iand hx hb (show decode cJ1_charAt_3b067 12 = .ok (.iand, 1) by decide +kernel) ?_
  refine lv_i2c (v := z) hx hb (show decode cJ1_charAt_3b067 13 = .ok (.i2c, 1) by decide +kernel) hzm.1 ?_
  exact W.zret (ty := .char) hx hb hr hzm.2 (fun t ht hW => ⟨rfl, ht⟩) (fun _ h => by cases h) (show decode cJ1_charAt_3b067 14 = .ok (.ireturn, 1) by decide +kernel)
def vm_w_isl : List Cond := Cond.code yJ0_isLatin1_aae02 cJ0_isLatin1_aae02 1 (some .boolean) :: vm_G
set_option maxHeartbeats 1000000 in
theorem vm_c_isl (l : Launch) (base adS adV : Nat)  : Met l yJ0_isLatin1_aae02 vm_w_isl (vm_rmk 0) (fun a U => a = #[.ref adS] ∧ vm_SJ adS adV base U) (QcRead 1) 0 0 (fun _ => False) := by
  refine va_MetF (cc := cJ0_isLatin1_aae02) (maxL := 1) (ret := (some .boolean)) (by decide +kernel) rfl ?_
  intro p e s m args below meth c s₁ B hml hP
  obtain ⟨rfl, hSI, hbs⟩ := hP
  have hx := B.exec
  have hb := B.bytes
  have hts0 := atoms_spec (ws := vm_w_isl) B.pre
  have hts : ∀ w ∈ vm_G, w.before _ s = true := fun w h => hts0 w (List.mem_cons_of_mem _ h)
  have hown : s.vm.findClass RJ0 = some m.cls := findClass_of_methodNamed B.named
  have hlocks := B.notSynchronized
  have hr := B.returns
  have hS : va_S (fun q => base ≤ q) s.heap s.heap [] := va_S.rf
  have hl := lv_entry ([.ref adS]) (n := 1) (Nat.le_of_ble_eq_true rfl)
  show W p l e _ s m _ below meth c s.heap [] 0 0 _ (entryFrame m ([.ref adS] : List Value).toArray 1)
  rw [lg_entry_eq]
  generalize (lg_sl ([.ref adS]) ++ List.replicate (1 - (lg_sl ([.ref adS])).length) Slot.unset).toArray = ls at hl ⊢
  have hl : lv_has ls 1 [(0, .ref adS)] := hl
  refine va_gets hx hb hSI.2.2.1 hS hown (hts (.fieldLink RJ0 38 "java/lang/String" "COMPACT_STRINGS" "Z") (vm_r7 _ (List.mem_of_getElem? (i := 4) rfl))) (fun _ h => h) (show decode cJ0_isLatin1_aae02 0 = .ok (.getstatic 38, 3) by decide +kernel) ?_
  refine lv_if_eq hx hb (show decode cJ0_isLatin1_aae02 3 = .ok (.ifCond .eq 14, 3) by decide +kernel) (tgt := 17) rfl (fun h => absurd h (by decide)) (fun _ => ?_)
  refine lv_aload_n hx hb (show decode cJ0_isLatin1_aae02 6 = .ok (.aload_n 0, 1) by decide +kernel) rfl (lv_at hl 0 rfl) ?_
  refine vk_getf hx hb (hSI.2.1.1 0 (by decide)).2.1 hS hown (hts (.fieldLink RJ0 15 "java/lang/String" "coder" "B") (vm_r7 _ (List.mem_of_getElem? (i := 5) rfl))) (fun _ h => h) (show decode cJ0_isLatin1_aae02 7 = .ok (.getfield 15, 3) by decide +kernel) ?_
  refine lv_if_ne hx hb (show decode cJ0_isLatin1_aae02 10 = .ok (.ifCond .ne 7, 3) by decide +kernel) (tgt := 17) rfl (fun h => absurd rfl h) (fun _ => ?_)
  refine lv_iconst (v := 1) hx hb (show decode cJ0_isLatin1_aae02 13 = .ok (.iconst 1, 1) by decide +kernel) rfl ?_
  refine lv_goto hx hb (show decode cJ0_isLatin1_aae02 14 = .ok (.goto 4, 3) by decide +kernel) (tgt := 18) rfl ?_
  exact W.zret (ty := .boolean) hx hb hr rfl (fun t ht hW => ⟨rfl, ht⟩) (fun _ h => by cases h) (show decode cJ0_isLatin1_aae02 18 = .ok (.ireturn, 1) by decide +kernel)
def vm_w_cod : List Cond := Cond.code yJ0_coder_7d493 cJ0_coder_7d493 1 (some .byte) :: vm_G
set_option maxHeartbeats 1000000 in
theorem vm_c_cod (l : Launch) (base adS adV : Nat)  : Met l yJ0_coder_7d493 vm_w_cod (vm_rmk 0) (fun a U => a = #[.ref adS] ∧ vm_SJ adS adV base U) (QcRead 0) 0 0 (fun _ => False) := by
  refine va_MetF (cc := cJ0_coder_7d493) (maxL := 1) (ret := (some .byte)) (by decide +kernel) rfl ?_
  intro p e s m args below meth c s₁ B hml hP
  obtain ⟨rfl, hSI, hbs⟩ := hP
  have hx := B.exec
  have hb := B.bytes
  have hts0 := atoms_spec (ws := vm_w_cod) B.pre
  have hts : ∀ w ∈ vm_G, w.before _ s = true := fun w h => hts0 w (List.mem_cons_of_mem _ h)
  have hown : s.vm.findClass RJ0 = some m.cls := findClass_of_methodNamed B.named
  have hlocks := B.notSynchronized
  have hr := B.returns
  have hS : va_S (fun q => base ≤ q) s.heap s.heap [] := va_S.rf
  have hl := lv_entry ([.ref adS]) (n := 1) (Nat.le_of_ble_eq_true rfl)
  show W p l e _ s m _ below meth c s.heap [] 0 0 _ (entryFrame m ([.ref adS] : List Value).toArray 1)
  rw [lg_entry_eq]
  generalize (lg_sl ([.ref adS]) ++ List.replicate (1 - (lg_sl ([.ref adS])).length) Slot.unset).toArray = ls at hl ⊢
  have hl : lv_has ls 1 [(0, .ref adS)] := hl
  refine va_gets hx hb hSI.2.2.1 hS hown (hts (.fieldLink RJ0 38 "java/lang/String" "COMPACT_STRINGS" "Z") (vm_r7 _ (List.mem_of_getElem? (i := 4) rfl))) (fun _ h => h) (show decode cJ0_coder_7d493 0 = .ok (.getstatic 38, 3) by decide +kernel) ?_
  refine lv_if_eq hx hb (show decode cJ0_coder_7d493 3 = .ok (.ifCond .eq 10, 3) by decide +kernel) (tgt := 13) rfl (fun h => absurd h (by decide)) (fun _ => ?_)
  refine lv_aload_n hx hb (show decode cJ0_coder_7d493 6 = .ok (.aload_n 0, 1) by decide +kernel) rfl (lv_at hl 0 rfl) ?_
  refine vk_getf hx hb (hSI.2.1.1 0 (by decide)).2.1 hS hown (hts (.fieldLink RJ0 15 "java/lang/String" "coder" "B") (vm_r7 _ (List.mem_of_getElem? (i := 5) rfl))) (fun _ h => h) (show decode cJ0_coder_7d493 7 = .ok (.getfield 15, 3) by decide +kernel) ?_
  refine lv_goto hx hb (show decode cJ0_coder_7d493 10 = .ok (.goto 4, 3) by decide +kernel) (tgt := 14) rfl ?_
  exact W.zret (ty := .byte) hx hb hr rfl (fun t ht hW => ⟨rfl, ht⟩) (fun _ h => by cases h) (show decode cJ0_coder_7d493 14 = .ok (.ireturn, 1) by decide +kernel)
def vm_w_len : List Cond := Cond.code yJ0_length_8abf5 cJ0_length_8abf5 1 (some .int) :: vm_G
set_option maxHeartbeats 1000000 in
theorem vm_c_length (l : Launch) (base adS adV : Nat)  : Met l yJ0_length_8abf5 vm_w_len vm_rmS (fun a U => a = #[.ref adS] ∧ vm_SJ adS adV base U) (QcRead (Int32.ofNat vm_txt.length)) 0 0 (fun _ => False) := by
  refine va_MetF (cc := cJ0_length_8abf5) (maxL := 1) (ret := (some .int)) (by decide +kernel) rfl ?_
  intro p e s m args below meth c s₁ B hml hP
  obtain ⟨rfl, hSI, hbs⟩ := hP
  have hx := B.exec
  have hb := B.bytes
  have hts0 := atoms_spec (ws := vm_w_len) B.pre
  have hts : ∀ w ∈ vm_G, w.before _ s = true := fun w h => hts0 w (List.mem_cons_of_mem _ h)
  have hown : s.vm.findClass RJ0 = some m.cls := findClass_of_methodNamed B.named
  have hlocks := B.notSynchronized
  have hr := B.returns
  have hS : va_S (fun q => base ≤ q) s.heap s.heap [] := va_S.rf
  have hl := lv_entry ([.ref adS]) (n := 1) (Nat.le_of_ble_eq_true rfl)
  show W p l e _ s m _ below meth c s.heap [] 0 0 _ (entryFrame m ([.ref adS] : List Value).toArray 1)
  rw [lg_entry_eq]
  generalize (lg_sl ([.ref adS]) ++ List.replicate (1 - (lg_sl ([.ref adS])).length) Slot.unset).toArray = ls at hl ⊢
  have hl : lv_has ls 1 [(0, .ref adS)] := hl
  refine lv_aload_n hx hb (show decode cJ0_length_8abf5 0 = .ok (.aload_n 0, 1) by decide +kernel) rfl (lv_at hl 0 rfl) ?_
  refine vk_getf hx hb (hSI.2.1.1 0 (by decide)).2.2.1 hS hown (hts (.fieldLink RJ0 9 "java/lang/String" "value" "[B") (vm_r6 _ (List.mem_of_getElem? (i := 23) rfl))) (fun _ h => h) (show decode cJ0_length_8abf5 1 = .ok (.getfield 9, 3) by decide +kernel) ?_
  refine va_tlen (v := Int32.ofNat vm_txt.length) hx hb (hSI.2.1.1 0 (by decide)).2.2.2 hS rfl (show decode cJ0_length_8abf5 4 = .ok (.arraylength, 1) by decide +kernel) ?_
  refine lv_aload_n hx hb (show decode cJ0_length_8abf5 5 = .ok (.aload_n 0, 1) by decide +kernel) rfl (lv_at hl 0 rfl) ?_
  refine W.callR (a := (Value.ref adS :: [] : List Value).toArray) (W.runV (C := RJ0) (b := adS) (As := []) (rest := [.int (Int32.ofNat vm_txt.length)]) ⟨hx, hb, hml, hown, hts⟩ (vm_c_cod l base adS adV) ⟨callB_of 0 hts (fun x hxm => (List.mem_cons.mp hxm).elim (fun z => z ▸ vm_GG _ (vm_r7 _ (List.mem_of_getElem? (i := 3) rfl))) (fun z => vm_GG x z)) rfl rfl rfl (hts _ (vm_r6 _ (List.mem_of_getElem? (i := 21) rfl))) (hts _ (vm_r7 _ (List.mem_of_getElem? (i := 0) rfl))) ⟨by decide +kernel, by decide +kernel, by decide +kernel⟩ ⟨Nat.le_of_ble_eq_true rfl, Nat.le_of_ble_eq_true rfl⟩, hts _ (vm_r7 _ (List.mem_of_getElem? (i := 1) rfl)), hts _ (vm_r7 _ (List.mem_of_getElem? (i := 2) rfl))⟩ ⟨fun a U g mk z => z, vk_recv hSI.2.1 (i := 0) (by decide) hS, fun U hU hW => ⟨rfl, vm_SI_mv hSI hW hbs hU (fun _ _ => rfl), by rw [hU]; exact hbs⟩⟩ rfl rfl hl.1 rfl (Nat.le_of_ble_eq_true rfl) (show decode cJ0_length_8abf5 6 = .ok (.invokevirtual 335, 3) by decide +kernel) ⟨Nat.zero_le _, Nat.zero_le _⟩) ?_
  refine lv_ishr hx hb (show decode cJ0_length_8abf5 9 = .ok (.ishr, 1) by decide +kernel) ?_
  rw [show Int32.ofNat vm_txt.length >>> ((0 : Int32) &&& 31) = Int32.ofNat vm_txt.length by decide +kernel]
  exact W.iret hx hb hr (fun t ht hW => ⟨rfl, ht⟩) (fun _ h => by cases h) (show decode cJ0_length_8abf5 10 = .ok (.ireturn, 1) by decide +kernel)
def vm_w_cha : List Cond := Cond.code yJ0_charAt_5068e cJ0_charAt_5068e 2 (some .char) :: vm_G
set_option maxHeartbeats 1000000 in
theorem vm_c_charAt (l : Launch) (base adS adV : Nat) (j z : Int32) (h0 : ¬ j < 0) (hz : vm_txt[j.toNatClampNeg]? = some z) : Met l yJ0_charAt_5068e vm_w_cha vm_rmS (fun a U => a = #[.ref adS, .int j] ∧ vm_SJ adS adV base U) (QcRead z) 0 0 (fun _ => False) := by
  refine va_MetF (cc := cJ0_charAt_5068e) (maxL := 2) (ret := (some .char)) (by decide +kernel) rfl ?_
  intro p e s m args below meth c s₁ B hml hP
  obtain ⟨rfl, hSI, hbs⟩ := hP
  have hx := B.exec
  have hb := B.bytes
  have hts0 := atoms_spec (ws := vm_w_cha) B.pre
  have hts : ∀ w ∈ vm_G, w.before _ s = true := fun w h => hts0 w (List.mem_cons_of_mem _ h)
  have hown : s.vm.findClass RJ0 = some m.cls := findClass_of_methodNamed B.named
  have hlocks := B.notSynchronized
  have hr := B.returns
  have hS : va_S (fun q => base ≤ q) s.heap s.heap [] := va_S.rf
  have hl := lv_entry ([.ref adS, .int j]) (n := 2) (Nat.le_of_ble_eq_true rfl)
  show W p l e _ s m _ below meth c s.heap [] 0 0 _ (entryFrame m ([.ref adS, .int j] : List Value).toArray 2)
  rw [lg_entry_eq]
  generalize (lg_sl ([.ref adS, .int j]) ++ List.replicate (2 - (lg_sl ([.ref adS, .int j])).length) Slot.unset).toArray = ls at hl ⊢
  have hl : lv_has ls 2 [(0, .ref adS), (1, .int j)] := hl
  have hzm := vm_byt_ok z (List.mem_of_getElem? hz)
  refine lv_aload_n hx hb (show decode cJ0_charAt_5068e 0 = .ok (.aload_n 0, 1) by decide +kernel) rfl (lv_at hl 0 rfl) ?_
  refine W.callR (a := (Value.ref adS :: [] : List Value).toArray) (W.runV (C := RJ0) (b := adS) (As := []) (rest := []) ⟨hx, hb, hml, hown, hts⟩ (vm_c_isl l base adS adV) ⟨callB_of 0 hts (fun x hxm => (List.mem_cons.mp hxm).elim (fun z => z ▸ vm_GG _ (vm_r7 _ (List.mem_of_getElem? (i := 13) rfl))) (fun z => vm_GG x z)) rfl rfl rfl (hts _ (vm_r6 _ (List.mem_of_getElem? (i := 21) rfl))) (hts _ (vm_r7 _ (List.mem_of_getElem? (i := 10) rfl))) ⟨by decide +kernel, by decide +kernel, by decide +kernel⟩ ⟨Nat.le_of_ble_eq_true rfl, Nat.le_of_ble_eq_true rfl⟩, hts _ (vm_r7 _ (List.mem_of_getElem? (i := 11) rfl)), hts _ (vm_r7 _ (List.mem_of_getElem? (i := 12) rfl))⟩ ⟨fun a U g mk z => z, vk_recv hSI.2.1 (i := 0) (by decide) hS, fun U hU hW => ⟨rfl, vm_SI_mv hSI hW hbs hU (fun _ _ => rfl), by rw [hU]; exact hbs⟩⟩ rfl rfl hl.1 rfl (Nat.le_of_ble_eq_true rfl) (show decode cJ0_charAt_5068e 1 = .ok (.invokevirtual 492, 3) by decide +kernel) ⟨Nat.zero_le _, Nat.zero_le _⟩) ?_
  refine lv_if_eq hx hb (show decode cJ0_charAt_5068e 4 = .ok (.ifCond .eq 12, 3) by decide +kernel) (tgt := 16) rfl (fun h => absurd h (by decide)) (fun _ => ?_)
  refine lv_aload_n hx hb (show decode cJ0_charAt_5068e 7 = .ok (.aload_n 0, 1) by decide +kernel) rfl (lv_at hl 0 rfl) ?_
  refine vk_getf hx hb (hSI.2.1.1 0 (by decide)).2.2.1 hS hown (hts (.fieldLink RJ0 9 "java/lang/String" "value" "[B") (vm_r6 _ (List.mem_of_getElem? (i := 23) rfl))) (fun _ h => h) (show decode cJ0_charAt_5068e 8 = .ok (.getfield 9, 3) by decide +kernel) ?_
  refine lv_iload_n hx hb (show decode cJ0_charAt_5068e 11 = .ok (.iload_n 1, 1) by decide +kernel) rfl (lv_at hl 1 rfl) ?_
  refine W.callR (a := ([.ref adV, .int j] : List Value).toArray) (W.runS (As := [.ref adV, .int j]) (rest := []) ⟨hx, hb, hml, hown, hts⟩ (vm_c_lat l base adS adV j z h0 hz) ⟨callB_of 2 hts (fun x hxm => (List.mem_cons.mp hxm).elim (fun z => z ▸ vm_GG _ (vm_r7 _ (List.mem_of_getElem? (i := 17) rfl))) (fun z => vm_GG x z)) rfl rfl rfl (hts _ (vm_r7 _ (List.mem_of_getElem? (i := 16) rfl))) (hts _ (vm_r7 _ (List.mem_of_getElem? (i := 14) rfl))) ⟨by decide +kernel, by decide +kernel, by decide +kernel⟩ ⟨Nat.le_of_ble_eq_true rfl, Nat.le_of_ble_eq_true rfl⟩, hts _ (vm_r7 _ (List.mem_of_getElem? (i := 15) rfl))⟩ ⟨fun a U g mk z => z, fun U hU hW => ⟨rfl, vm_SI_mv hSI hW hbs hU (fun _ _ => rfl), by rw [hU]; exact hbs⟩⟩ rfl rfl hl.1 rfl (Nat.le_of_ble_eq_true rfl) (show decode cJ0_charAt_5068e 12 = .ok (.invokestatic 495, 3) by decide +kernel) ⟨Nat.zero_le _, Nat.zero_le _⟩) ?_
  exact W.zret (ty := .char) hx hb hr hzm.2 (fun t ht hW => ⟨rfl, ht⟩) (fun _ h => by cases h) (show decode cJ0_charAt_5068e 15 = .ok (.ireturn, 1) by decide +kernel)
