/-! every instruction that neither calls nor returns -/
theorem vm_oi1 : Cond.instanceMethod objectInit ∈ vm_G := vm_r1 _ (List.mem_of_getElem? (i := 10) rfl)
theorem vm_oi2 : Cond.code objectInit ⟨#[0xb1]⟩ 1 none ∈ vm_G := vm_r1 _ (List.mem_of_getElem? (i := 11) rfl)
theorem vm_sl1 : Cond.code yJ0_length_8abf5 cJ0_length_8abf5 1 (some .int) ∈ vm_G := vm_r6 _ (List.mem_of_getElem? (i := 22) rfl)
theorem vm_sl2 : Cond.instanceMethod yJ0_length_8abf5 ∈ vm_G := vm_r6 _ (List.mem_of_getElem? (i := 19) rfl)
theorem vm_sl3 : Cond.selects "java/lang/String" yJ0_length_8abf5 yJ0_length_8abf5 ∈ vm_G := vm_r6 _ (List.mem_of_getElem? (i := 20) rfl)
theorem vm_sl4 : Cond.initialized yJ0_length_8abf5.cls ∈ vm_G := vm_r6 _ (List.mem_of_getElem? (i := 21) rfl)
theorem vm_sc1 : Cond.code yJ0_charAt_5068e cJ0_charAt_5068e 2 (some .char) ∈ vm_G := vm_r7 _ (List.mem_of_getElem? (i := 9) rfl)
theorem vm_sc2 : Cond.instanceMethod yJ0_charAt_5068e ∈ vm_G := vm_r7 _ (List.mem_of_getElem? (i := 7) rfl)
theorem vm_sc3 : Cond.selects "java/lang/String" yJ0_charAt_5068e yJ0_charAt_5068e ∈ vm_G := vm_r7 _ (List.mem_of_getElem? (i := 8) rfl)
theorem vm_sc4 : Cond.initialized yJ0_charAt_5068e.cls ∈ vm_G := vm_r6 _ (List.mem_of_getElem? (i := 21) rfl)
section VMT
variable {p : Program} {l : Launch} {e : Env} {R : Room} {s : State} {m : MethodId} {args : Array Value} {below : List Frame} {meth : Method} {c : Code} {H : Heap} {locs : List Loc} {Q : State → Prop}
variable {D : va_G} {κ : Nat → ClassId} {base b adS adV L : Nat} {xs : Nat → Int32} {r : vm_M} {lsr : Array Slot} {ls ls' : vm_L} {st st' : List Value} {w w' : vm_W} {pc' n0 k0 d : Nat}
set_option maxHeartbeats 4000000 in
theorem vm_str_W {y : MethodName} {bytes : ByteArray} {maxL n x pc : Nat} {ret : FieldType} {ws : List Cond} {As : List Value} {st0 : List Value} {z : Int32} {cells slots : Nat} (hpc : vm_H D κ base b adS L xs w H → True)
    (C : vm_C D κ base b adS adV L xs p s m args meth c r) (hd : 10 ≤ d ∧ d ≤ R.frames ∧ 40 * d + 20 ≤ R.locals) (hws : ws = .code y bytes maxL (some ret) :: vm_G) (hcode : .code y bytes maxL (some ret) ∈ vm_G) (hmaxL : maxL ≤ 20)
    (hM : Met l y ws vm_rmS (fun a U => a = (Value.ref adS :: As).toArray ∧ vm_SJ adS adV base U) (QcRead z) 0 0 (fun _ => False))
    (hl : Cond.methodLink r.1 x y ∈ vm_G) (hin : Cond.instanceMethod y ∈ vm_G) (hse : Cond.selects "java/lang/String" y y ∈ vm_G) (hini : Cond.initialized y.cls ∈ vm_G) (hy : y.cls ≠ "java/lang/invoke/MethodHandle" ∧ y.cls ≠ "java/lang/invoke/VarHandle" ∧ (parseMethodDescriptor y.desc).map (fun d => d.parameters.length) = some n) (hn : As.length = n)
    (hst : (st0.map fun v => v.category).sum ≤ 8) (hdg : decode r.2.2.1 pc = .ok (.invokevirtual x, 3)) (hL : vm_LV (vm_r base b adS) lsr r.2.2.2.1 ls) (hT : vm_T D κ base b adS L xs s.heap w H locs) (hcl : cells ≤ R.cells ∧ slots ≤ R.slots)
    (kk : ∀ locs', vm_T D κ base b adS L xs s.heap w H locs' → W p l e R s m args below meth c H locs' cells slots Q (F0 m (pc + 3) lsr (.int z :: st0))) :
    W p l e R s m args below meth c H locs cells slots Q (F0 m pc lsr (As.reverse ++ .ref adS :: st0)) := by
  obtain ⟨hx, hb, hml, hown, hts, hK, hAO, hN, hnm, hret, hlk, hX, hbb, hSI⟩ := C
  obtain ⟨t1, t2, t3, t4⟩ := hT
  have cb : CallB R s args r.1 x y bytes maxL (some ret) ws vm_rmS 0 0 n := callB_of n hts (ws' := vm_G) (fun w h => by rw [hws] at h; exact (List.mem_cons.mp h).elim (fun h => h ▸ vm_GG _ hcode) (fun h => vm_GG w h)) hws rfl rfl (hts _ hini) (hts _ hl) hy ⟨by show 8 + 1 ≤ R.frames; omega, by show 8 + (maxL + 11) + 340 ≤ R.locals; omega⟩
  have run := va_runV (p := p) (l := l) (e := e) (R := R) (s := s) (m := m) (args := args) (below := below) (meth := meth) (c := c) (H := H) (locs := locs) (cells := cells) (slots := slots) (C := "java/lang/String") (b := adS) (As := As) (rest := st0) (g := F0 m pc lsr (As.reverse ++ .ref adS :: st0)) ⟨hx, hb, hml, hown, hts⟩ hM ⟨cb, hts _ hin, hts _ hse⟩
    ⟨fun a U g mk q => ⟨q.1, q.2⟩, vk_recv (H := H) (locs := locs) hSI.2.1 (i := 0) (by decide) ⟨t2.2, fun q _ hq => t3 q (Nat.lt_of_not_le hq), t4⟩, fun U hU hW => ⟨rfl, vm_SI_mv hSI hW t2.1 hU t3, by rw [hU, t1.1]; exact Nat.le_add_right _ _⟩⟩ rfl hn hL.2.1 rfl (by show 2 * 0 + _ ≤ 8; omega) hdg ⟨by omega, by omega⟩
  intro T hT' X
  obtain ⟨v, st₀, t, T', L', h0, X', hL', e1, e2, ⟨q1, q2⟩, stp⟩ := run T hT' X
  cases q1
  obtain ⟨t2', a1, b1⟩ := kk (locs ++ L') ⟨t1, t2, t3, fun q hq => (List.mem_append.mp hq).elim (t4 q) (fun h => (hL' q h).elim)⟩ T' (by rw [e1, q2, h0]) X'
  exact ⟨t2', stp t2' a1, b1⟩
set_option maxHeartbeats 1000000 in
theorem vm_s_iconst (n : Int) {pc len a bb cn o : Nat} (C : vm_C D κ base b adS adV L xs p s m args meth c r) (ho : vm_nm[o]? = some r.1) (hcl : r.2.1.cls = r.1) (hdg : decode r.2.2.1 pc = .ok ((.iconst n), len)) (hlen : len = vm_len (.iconst n) len)
    (hch : vm_chk o (pc, (.iconst n), len, a, bb, cn) = true) (hd : d ≤ R.frames ∧ 40 * d + 20 ≤ R.locals)
    (hs : vm_step d r (pc, (.iconst n), len, a, bb, cn) ls st w = some (pc', ls', st', w')) (hn : n0 ≤ w.1 ∧ k0 ≤ w.2.1) (hc : w'.1 ≤ n0 + R.cells ∧ w'.2.1 ≤ k0 + R.slots)
    (kk : ∀ lsr' H' locs', vm_LV (vm_r base b adS) lsr' r.2.2.2.1 ls' → vm_T D κ base b adS L xs s.heap w' H' locs' → W p l e R s m args below meth c H' locs' (w'.1 - n0) (w'.2.1 - k0) Q (F0 m pc' lsr' (st'.map (vm_v (vm_r base b adS)))))
    (hL : vm_LV (vm_r base b adS) lsr r.2.2.2.1 ls) (hT : vm_T D κ base b adS L xs s.heap w H locs) :
    W p l e R s m args below meth c H locs (w.1 - n0) (w.2.1 - k0) Q (F0 m pc lsr (st.map (vm_v (vm_r base b adS)))) := by
  have CC := C
  obtain ⟨hx, hb, hml, hown, hts, hK, hAO, hN, hnm, hret, hlk, hX, hbb, hSI⟩ := C
  have hw1 : w.1 ≤ 1000 := hT.1.2.1
  unfold vm_chk at hch
  rw [Bool.and_eq_true] at hch
  replace hch := hch.2
  cases (show len = 1 from hlen)
  cases (show some (pc + 1, ls, .int (Int32.ofInt n) :: st, w) = some _ from hs)
  exact lv_iconst hx hb hdg rfl (kk _ _ _ hL hT)
set_option maxHeartbeats 1000000 in
theorem vm_s_bipush (n : Int) {pc len a bb cn o : Nat} (C : vm_C D κ base b adS adV L xs p s m args meth c r) (ho : vm_nm[o]? = some r.1) (hcl : r.2.1.cls = r.1) (hdg : decode r.2.2.1 pc = .ok ((.bipush n), len)) (hlen : len = vm_len (.bipush n) len)
    (hch : vm_chk o (pc, (.bipush n), len, a, bb, cn) = true) (hd : d ≤ R.frames ∧ 40 * d + 20 ≤ R.locals)
    (hs : vm_step d r (pc, (.bipush n), len, a, bb, cn) ls st w = some (pc', ls', st', w')) (hn : n0 ≤ w.1 ∧ k0 ≤ w.2.1) (hc : w'.1 ≤ n0 + R.cells ∧ w'.2.1 ≤ k0 + R.slots)
    (kk : ∀ lsr' H' locs', vm_LV (vm_r base b adS) lsr' r.2.2.2.1 ls' → vm_T D κ base b adS L xs s.heap w' H' locs' → W p l e R s m args below meth c H' locs' (w'.1 - n0) (w'.2.1 - k0) Q (F0 m pc' lsr' (st'.map (vm_v (vm_r base b adS)))))
    (hL : vm_LV (vm_r base b adS) lsr r.2.2.2.1 ls) (hT : vm_T D κ base b adS L xs s.heap w H locs) :
    W p l e R s m args below meth c H locs (w.1 - n0) (w.2.1 - k0) Q (F0 m pc lsr (st.map (vm_v (vm_r base b adS)))) := by
  have CC := C
  obtain ⟨hx, hb, hml, hown, hts, hK, hAO, hN, hnm, hret, hlk, hX, hbb, hSI⟩ := C
  have hw1 : w.1 ≤ 1000 := hT.1.2.1
  unfold vm_chk at hch
  rw [Bool.and_eq_true] at hch
  replace hch := hch.2
  cases (show len = 2 from hlen)
  cases (show some (pc + 2, ls, .int (Int8.ofInt n).toInt32 :: st, w) = some _ from hs)
  exact lv_bipush hx hb hdg rfl (kk _ _ _ hL hT)
set_option maxHeartbeats 1000000 in
theorem vm_s_sipush (n : Int) {pc len a bb cn o : Nat} (C : vm_C D κ base b adS adV L xs p s m args meth c r) (ho : vm_nm[o]? = some r.1) (hcl : r.2.1.cls = r.1) (hdg : decode r.2.2.1 pc = .ok ((.sipush n), len)) (hlen : len = vm_len (.sipush n) len)
    (hch : vm_chk o (pc, (.sipush n), len, a, bb, cn) = true) (hd : d ≤ R.frames ∧ 40 * d + 20 ≤ R.locals)
    (hs : vm_step d r (pc, (.sipush n), len, a, bb, cn) ls st w = some (pc', ls', st', w')) (hn : n0 ≤ w.1 ∧ k0 ≤ w.2.1) (hc : w'.1 ≤ n0 + R.cells ∧ w'.2.1 ≤ k0 + R.slots)
    (kk : ∀ lsr' H' locs', vm_LV (vm_r base b adS) lsr' r.2.2.2.1 ls' → vm_T D κ base b adS L xs s.heap w' H' locs' → W p l e R s m args below meth c H' locs' (w'.1 - n0) (w'.2.1 - k0) Q (F0 m pc' lsr' (st'.map (vm_v (vm_r base b adS)))))
    (hL : vm_LV (vm_r base b adS) lsr r.2.2.2.1 ls) (hT : vm_T D κ base b adS L xs s.heap w H locs) :
    W p l e R s m args below meth c H locs (w.1 - n0) (w.2.1 - k0) Q (F0 m pc lsr (st.map (vm_v (vm_r base b adS)))) := by
  have CC := C
  obtain ⟨hx, hb, hml, hown, hts, hK, hAO, hN, hnm, hret, hlk, hX, hbb, hSI⟩ := C
  have hw1 : w.1 ≤ 1000 := hT.1.2.1
  unfold vm_chk at hch
  rw [Bool.and_eq_true] at hch
  replace hch := hch.2
  cases (show len = 3 from hlen)
  cases (show some (pc + 3, ls, .int (Int16.ofInt n).toInt32 :: st, w) = some _ from hs)
  exact lv_sipush hx hb hdg rfl (kk _ _ _ hL hT)
set_option maxHeartbeats 1000000 in
theorem vm_s_lconst (n : Fin 2) {pc len a bb cn o : Nat} (C : vm_C D κ base b adS adV L xs p s m args meth c r) (ho : vm_nm[o]? = some r.1) (hcl : r.2.1.cls = r.1) (hdg : decode r.2.2.1 pc = .ok ((.lconst n), len)) (hlen : len = vm_len (.lconst n) len)
    (hch : vm_chk o (pc, (.lconst n), len, a, bb, cn) = true) (hd : d ≤ R.frames ∧ 40 * d + 20 ≤ R.locals)
    (hs : vm_step d r (pc, (.lconst n), len, a, bb, cn) ls st w = some (pc', ls', st', w')) (hn : n0 ≤ w.1 ∧ k0 ≤ w.2.1) (hc : w'.1 ≤ n0 + R.cells ∧ w'.2.1 ≤ k0 + R.slots)
    (kk : ∀ lsr' H' locs', vm_LV (vm_r base b adS) lsr' r.2.2.2.1 ls' → vm_T D κ base b adS L xs s.heap w' H' locs' → W p l e R s m args below meth c H' locs' (w'.1 - n0) (w'.2.1 - k0) Q (F0 m pc' lsr' (st'.map (vm_v (vm_r base b adS)))))
    (hL : vm_LV (vm_r base b adS) lsr r.2.2.2.1 ls) (hT : vm_T D κ base b adS L xs s.heap w H locs) :
    W p l e R s m args below meth c H locs (w.1 - n0) (w.2.1 - k0) Q (F0 m pc lsr (st.map (vm_v (vm_r base b adS)))) := by
  have CC := C
  obtain ⟨hx, hb, hml, hown, hts, hK, hAO, hN, hnm, hret, hlk, hX, hbb, hSI⟩ := C
  have hw1 : w.1 ≤ 1000 := hT.1.2.1
  unfold vm_chk at hch
  rw [Bool.and_eq_true] at hch
  replace hch := hch.2
  cases (show len = 1 from hlen)
  cases (show some (pc + 1, ls, .long (Int64.ofNat (n : Nat)) :: st, w) = some _ from hs)
  exact lv_lconst hx hb hdg rfl (kk _ _ _ hL hT)
set_option maxHeartbeats 1000000 in
theorem vm_s_aconst_null  {pc len a bb cn o : Nat} (C : vm_C D κ base b adS adV L xs p s m args meth c r) (ho : vm_nm[o]? = some r.1) (hcl : r.2.1.cls = r.1) (hdg : decode r.2.2.1 pc = .ok (.aconst_null, len)) (hlen : len = vm_len .aconst_null len)
    (hch : vm_chk o (pc, .aconst_null, len, a, bb, cn) = true) (hd : d ≤ R.frames ∧ 40 * d + 20 ≤ R.locals)
    (hs : vm_step d r (pc, .aconst_null, len, a, bb, cn) ls st w = some (pc', ls', st', w')) (hn : n0 ≤ w.1 ∧ k0 ≤ w.2.1) (hc : w'.1 ≤ n0 + R.cells ∧ w'.2.1 ≤ k0 + R.slots)
    (kk : ∀ lsr' H' locs', vm_LV (vm_r base b adS) lsr' r.2.2.2.1 ls' → vm_T D κ base b adS L xs s.heap w' H' locs' → W p l e R s m args below meth c H' locs' (w'.1 - n0) (w'.2.1 - k0) Q (F0 m pc' lsr' (st'.map (vm_v (vm_r base b adS)))))
    (hL : vm_LV (vm_r base b adS) lsr r.2.2.2.1 ls) (hT : vm_T D κ base b adS L xs s.heap w H locs) :
    W p l e R s m args below meth c H locs (w.1 - n0) (w.2.1 - k0) Q (F0 m pc lsr (st.map (vm_v (vm_r base b adS)))) := by
  have CC := C
  obtain ⟨hx, hb, hml, hown, hts, hK, hAO, hN, hnm, hret, hlk, hX, hbb, hSI⟩ := C
  have hw1 : w.1 ≤ 1000 := hT.1.2.1
  unfold vm_chk at hch
  rw [Bool.and_eq_true] at hch
  replace hch := hch.2
  cases (show len = 1 from hlen)
  cases (show some (pc + 1, ls, Value.null :: st, w) = some _ from hs)
  exact lv_null hx hb hdg (kk _ _ _ hL hT)
set_option maxHeartbeats 1000000 in
theorem vm_s_ldc (x : Nat) {pc len a bb cn o : Nat} (C : vm_C D κ base b adS adV L xs p s m args meth c r) (ho : vm_nm[o]? = some r.1) (hcl : r.2.1.cls = r.1) (hdg : decode r.2.2.1 pc = .ok ((.ldc x), len)) (hlen : len = vm_len (.ldc x) len)
    (hch : vm_chk o (pc, (.ldc x), len, a, bb, cn) = true) (hd : d ≤ R.frames ∧ 40 * d + 20 ≤ R.locals)
    (hs : vm_step d r (pc, (.ldc x), len, a, bb, cn) ls st w = some (pc', ls', st', w')) (hn : n0 ≤ w.1 ∧ k0 ≤ w.2.1) (hc : w'.1 ≤ n0 + R.cells ∧ w'.2.1 ≤ k0 + R.slots)
    (kk : ∀ lsr' H' locs', vm_LV (vm_r base b adS) lsr' r.2.2.2.1 ls' → vm_T D κ base b adS L xs s.heap w' H' locs' → W p l e R s m args below meth c H' locs' (w'.1 - n0) (w'.2.1 - k0) Q (F0 m pc' lsr' (st'.map (vm_v (vm_r base b adS)))))
    (hL : vm_LV (vm_r base b adS) lsr r.2.2.2.1 ls) (hT : vm_T D κ base b adS L xs s.heap w H locs) :
    W p l e R s m args below meth c H locs (w.1 - n0) (w.2.1 - k0) Q (F0 m pc lsr (st.map (vm_v (vm_r base b adS)))) := by
  have CC := C
  obtain ⟨hx, hb, hml, hown, hts, hK, hAO, hN, hnm, hret, hlk, hX, hbb, hSI⟩ := C
  have hw1 : w.1 ≤ 1000 := hT.1.2.1
  unfold vm_chk at hch
  rw [Bool.and_eq_true] at hch
  replace hch := hch.2
  cases (show len = 2 from hlen)
  have hs : (if a = 99 then some (pc + 2, ls, .ref vm_str :: st, w) else vm_lc (vm_KI[a]?.map Value.int) (pc + 2) ls st w) = some (pc', ls', st', w') := hs
  have hch : (if a = 99 then (o == 10 && x == 89) else decide ((o, x, a) ∈ vm_iT)) = true := hch
  by_cases ha : a = 99
  · rw [if_pos ha] at hs hch
    cases hs
    rw [Bool.and_eq_true, beq_iff_eq, beq_iff_eq] at hch
    obtain ⟨rfl, rfl⟩ := hch
    have hR : r.1 = RX10 := Option.some.inj (ho.symm.trans rfl)
    rw [hR] at hown
    exact va_ldcS hx hb hown hSI.1 hdg (kk _ _ _ hL hT)
  · rw [if_neg ha] at hs hch
    obtain ⟨own, v, g1, g2, g3⟩ := vm_iT_ok _ (of_decide_eq_true hch)
    cases ho.symm.trans g1
    have g2 : vm_KI[a]? = some v := g2
    obtain ⟨v', e1, rfl, rfl, rfl, rfl⟩ := vm_lc_i hs
    rw [g2] at e1
    cases e1
    exact lv_ldc hx hb hown (hts _ g3) hdg (kk _ _ _ hL hT)
set_option maxHeartbeats 1000000 in
theorem vm_s_ldc2_w (x : Nat) {pc len a bb cn o : Nat} (C : vm_C D κ base b adS adV L xs p s m args meth c r) (ho : vm_nm[o]? = some r.1) (hcl : r.2.1.cls = r.1) (hdg : decode r.2.2.1 pc = .ok ((.ldc2_w x), len)) (hlen : len = vm_len (.ldc2_w x) len)
    (hch : vm_chk o (pc, (.ldc2_w x), len, a, bb, cn) = true) (hd : d ≤ R.frames ∧ 40 * d + 20 ≤ R.locals)
    (hs : vm_step d r (pc, (.ldc2_w x), len, a, bb, cn) ls st w = some (pc', ls', st', w')) (hn : n0 ≤ w.1 ∧ k0 ≤ w.2.1) (hc : w'.1 ≤ n0 + R.cells ∧ w'.2.1 ≤ k0 + R.slots)
    (kk : ∀ lsr' H' locs', vm_LV (vm_r base b adS) lsr' r.2.2.2.1 ls' → vm_T D κ base b adS L xs s.heap w' H' locs' → W p l e R s m args below meth c H' locs' (w'.1 - n0) (w'.2.1 - k0) Q (F0 m pc' lsr' (st'.map (vm_v (vm_r base b adS)))))
    (hL : vm_LV (vm_r base b adS) lsr r.2.2.2.1 ls) (hT : vm_T D κ base b adS L xs s.heap w H locs) :
    W p l e R s m args below meth c H locs (w.1 - n0) (w.2.1 - k0) Q (F0 m pc lsr (st.map (vm_v (vm_r base b adS)))) := by
  have CC := C
  obtain ⟨hx, hb, hml, hown, hts, hK, hAO, hN, hnm, hret, hlk, hX, hbb, hSI⟩ := C
  have hw1 : w.1 ≤ 1000 := hT.1.2.1
  unfold vm_chk at hch
  rw [Bool.and_eq_true] at hch
  replace hch := hch.2
  cases (show len = 3 from hlen)
  obtain ⟨own, v, g1, g2, g3⟩ := vm_lT_ok _ (of_decide_eq_true (show decide ((o, x, a) ∈ vm_lT) = true from hch))
  cases ho.symm.trans g1
  have g2 : vm_KL[a]? = some v := g2
  obtain ⟨v', e1, rfl, rfl, rfl, rfl⟩ := vm_lc_i (show vm_lc (vm_KL[a]?.map Value.long) (pc + 3) ls st w = some (pc', ls', st', w') from hs)
  rw [g2] at e1
  cases e1
  exact lv_ldc2 hx hb hown (hts _ g3) hdg (kk _ _ _ hL hT)
set_option maxHeartbeats 1000000 in
theorem vm_s_iload_n (k : Fin 4) {pc len a bb cn o : Nat} (C : vm_C D κ base b adS adV L xs p s m args meth c r) (ho : vm_nm[o]? = some r.1) (hcl : r.2.1.cls = r.1) (hdg : decode r.2.2.1 pc = .ok ((.iload_n k), len)) (hlen : len = vm_len (.iload_n k) len)
    (hch : vm_chk o (pc, (.iload_n k), len, a, bb, cn) = true) (hd : d ≤ R.frames ∧ 40 * d + 20 ≤ R.locals)
    (hs : vm_step d r (pc, (.iload_n k), len, a, bb, cn) ls st w = some (pc', ls', st', w')) (hn : n0 ≤ w.1 ∧ k0 ≤ w.2.1) (hc : w'.1 ≤ n0 + R.cells ∧ w'.2.1 ≤ k0 + R.slots)
    (kk : ∀ lsr' H' locs', vm_LV (vm_r base b adS) lsr' r.2.2.2.1 ls' → vm_T D κ base b adS L xs s.heap w' H' locs' → W p l e R s m args below meth c H' locs' (w'.1 - n0) (w'.2.1 - k0) Q (F0 m pc' lsr' (st'.map (vm_v (vm_r base b adS)))))
    (hL : vm_LV (vm_r base b adS) lsr r.2.2.2.1 ls) (hT : vm_T D κ base b adS L xs s.heap w H locs) :
    W p l e R s m args below meth c H locs (w.1 - n0) (w.2.1 - k0) Q (F0 m pc lsr (st.map (vm_v (vm_r base b adS)))) := by
  have CC := C
  obtain ⟨hx, hb, hml, hown, hts, hK, hAO, hN, hnm, hret, hlk, hX, hbb, hSI⟩ := C
  have hw1 : w.1 ≤ 1000 := hT.1.2.1
  unfold vm_chk at hch
  rw [Bool.and_eq_true] at hch
  replace hch := hch.2
  cases (show len = 1 from hlen)
  obtain ⟨v, e1, e2, rfl, rfl, rfl, rfl⟩ := vm_push_i (show vm_push (vm_ld ls k) vm_isI (pc + 1) ls st w = some (pc', ls', st', w') from hs)
  obtain ⟨x, rfl⟩ := vm_isI_i e2
  exact lv_iload_n hx hb hdg rfl (hL.2.2.2 _ _ e1) (kk _ _ _ hL hT)
set_option maxHeartbeats 1000000 in
theorem vm_s_iload (k : Nat) {pc len a bb cn o : Nat} (C : vm_C D κ base b adS adV L xs p s m args meth c r) (ho : vm_nm[o]? = some r.1) (hcl : r.2.1.cls = r.1) (hdg : decode r.2.2.1 pc = .ok ((.iload k), len)) (hlen : len = vm_len (.iload k) len)
    (hch : vm_chk o (pc, (.iload k), len, a, bb, cn) = true) (hd : d ≤ R.frames ∧ 40 * d + 20 ≤ R.locals)
    (hs : vm_step d r (pc, (.iload k), len, a, bb, cn) ls st w = some (pc', ls', st', w')) (hn : n0 ≤ w.1 ∧ k0 ≤ w.2.1) (hc : w'.1 ≤ n0 + R.cells ∧ w'.2.1 ≤ k0 + R.slots)
    (kk : ∀ lsr' H' locs', vm_LV (vm_r base b adS) lsr' r.2.2.2.1 ls' → vm_T D κ base b adS L xs s.heap w' H' locs' → W p l e R s m args below meth c H' locs' (w'.1 - n0) (w'.2.1 - k0) Q (F0 m pc' lsr' (st'.map (vm_v (vm_r base b adS)))))
    (hL : vm_LV (vm_r base b adS) lsr r.2.2.2.1 ls) (hT : vm_T D κ base b adS L xs s.heap w H locs) :
    W p l e R s m args below meth c H locs (w.1 - n0) (w.2.1 - k0) Q (F0 m pc lsr (st.map (vm_v (vm_r base b adS)))) := by
  have CC := C
  obtain ⟨hx, hb, hml, hown, hts, hK, hAO, hN, hnm, hret, hlk, hX, hbb, hSI⟩ := C
  have hw1 : w.1 ≤ 1000 := hT.1.2.1
  unfold vm_chk at hch
  rw [Bool.and_eq_true] at hch
  replace hch := hch.2
  cases (show len = 2 from hlen)
  obtain ⟨v, e1, e2, rfl, rfl, rfl, rfl⟩ := vm_push_i (show vm_push (vm_ld ls k) vm_isI (pc + 2) ls st w = some (pc', ls', st', w') from hs)
  obtain ⟨x, rfl⟩ := vm_isI_i e2
  exact lv_iload hx hb hdg (hL.2.2.2 _ _ e1) (kk _ _ _ hL hT)
set_option maxHeartbeats 1000000 in
theorem vm_s_lload_n (k : Fin 4) {pc len a bb cn o : Nat} (C : vm_C D κ base b adS adV L xs p s m args meth c r) (ho : vm_nm[o]? = some r.1) (hcl : r.2.1.cls = r.1) (hdg : decode r.2.2.1 pc = .ok ((.lload_n k), len)) (hlen : len = vm_len (.lload_n k) len)
    (hch : vm_chk o (pc, (.lload_n k), len, a, bb, cn) = true) (hd : d ≤ R.frames ∧ 40 * d + 20 ≤ R.locals)
    (hs : vm_step d r (pc, (.lload_n k), len, a, bb, cn) ls st w = some (pc', ls', st', w')) (hn : n0 ≤ w.1 ∧ k0 ≤ w.2.1) (hc : w'.1 ≤ n0 + R.cells ∧ w'.2.1 ≤ k0 + R.slots)
    (kk : ∀ lsr' H' locs', vm_LV (vm_r base b adS) lsr' r.2.2.2.1 ls' → vm_T D κ base b adS L xs s.heap w' H' locs' → W p l e R s m args below meth c H' locs' (w'.1 - n0) (w'.2.1 - k0) Q (F0 m pc' lsr' (st'.map (vm_v (vm_r base b adS)))))
    (hL : vm_LV (vm_r base b adS) lsr r.2.2.2.1 ls) (hT : vm_T D κ base b adS L xs s.heap w H locs) :
    W p l e R s m args below meth c H locs (w.1 - n0) (w.2.1 - k0) Q (F0 m pc lsr (st.map (vm_v (vm_r base b adS)))) := by
  have CC := C
  obtain ⟨hx, hb, hml, hown, hts, hK, hAO, hN, hnm, hret, hlk, hX, hbb, hSI⟩ := C
  have hw1 : w.1 ≤ 1000 := hT.1.2.1
  unfold vm_chk at hch
  rw [Bool.and_eq_true] at hch
  replace hch := hch.2
  cases (show len = 1 from hlen)
  obtain ⟨v, e1, e2, rfl, rfl, rfl, rfl⟩ := vm_push_i (show vm_push (vm_ld ls k) vm_isJ (pc + 1) ls st w = some (pc', ls', st', w') from hs)
  obtain ⟨x, rfl⟩ := vm_isJ_i e2
  exact lv_lload_n hx hb hdg rfl (hL.2.2.2 _ _ e1) (kk _ _ _ hL hT)
set_option maxHeartbeats 1000000 in
theorem vm_s_lload (k : Nat) {pc len a bb cn o : Nat} (C : vm_C D κ base b adS adV L xs p s m args meth c r) (ho : vm_nm[o]? = some r.1) (hcl : r.2.1.cls = r.1) (hdg : decode r.2.2.1 pc = .ok ((.lload k), len)) (hlen : len = vm_len (.lload k) len)
    (hch : vm_chk o (pc, (.lload k), len, a, bb, cn) = true) (hd : d ≤ R.frames ∧ 40 * d + 20 ≤ R.locals)
    (hs : vm_step d r (pc, (.lload k), len, a, bb, cn) ls st w = some (pc', ls', st', w')) (hn : n0 ≤ w.1 ∧ k0 ≤ w.2.1) (hc : w'.1 ≤ n0 + R.cells ∧ w'.2.1 ≤ k0 + R.slots)
    (kk : ∀ lsr' H' locs', vm_LV (vm_r base b adS) lsr' r.2.2.2.1 ls' → vm_T D κ base b adS L xs s.heap w' H' locs' → W p l e R s m args below meth c H' locs' (w'.1 - n0) (w'.2.1 - k0) Q (F0 m pc' lsr' (st'.map (vm_v (vm_r base b adS)))))
    (hL : vm_LV (vm_r base b adS) lsr r.2.2.2.1 ls) (hT : vm_T D κ base b adS L xs s.heap w H locs) :
    W p l e R s m args below meth c H locs (w.1 - n0) (w.2.1 - k0) Q (F0 m pc lsr (st.map (vm_v (vm_r base b adS)))) := by
  have CC := C
  obtain ⟨hx, hb, hml, hown, hts, hK, hAO, hN, hnm, hret, hlk, hX, hbb, hSI⟩ := C
  have hw1 : w.1 ≤ 1000 := hT.1.2.1
  unfold vm_chk at hch
  rw [Bool.and_eq_true] at hch
  replace hch := hch.2
  cases (show len = 2 from hlen)
  obtain ⟨v, e1, e2, rfl, rfl, rfl, rfl⟩ := vm_push_i (show vm_push (vm_ld ls k) vm_isJ (pc + 2) ls st w = some (pc', ls', st', w') from hs)
  obtain ⟨x, rfl⟩ := vm_isJ_i e2
  exact lv_lload hx hb hdg (hL.2.2.2 _ _ e1) (kk _ _ _ hL hT)
set_option maxHeartbeats 1000000 in
theorem vm_s_aload_n (k : Fin 4) {pc len a bb cn o : Nat} (C : vm_C D κ base b adS adV L xs p s m args meth c r) (ho : vm_nm[o]? = some r.1) (hcl : r.2.1.cls = r.1) (hdg : decode r.2.2.1 pc = .ok ((.aload_n k), len)) (hlen : len = vm_len (.aload_n k) len)
    (hch : vm_chk o (pc, (.aload_n k), len, a, bb, cn) = true) (hd : d ≤ R.frames ∧ 40 * d + 20 ≤ R.locals)
    (hs : vm_step d r (pc, (.aload_n k), len, a, bb, cn) ls st w = some (pc', ls', st', w')) (hn : n0 ≤ w.1 ∧ k0 ≤ w.2.1) (hc : w'.1 ≤ n0 + R.cells ∧ w'.2.1 ≤ k0 + R.slots)
    (kk : ∀ lsr' H' locs', vm_LV (vm_r base b adS) lsr' r.2.2.2.1 ls' → vm_T D κ base b adS L xs s.heap w' H' locs' → W p l e R s m args below meth c H' locs' (w'.1 - n0) (w'.2.1 - k0) Q (F0 m pc' lsr' (st'.map (vm_v (vm_r base b adS)))))
    (hL : vm_LV (vm_r base b adS) lsr r.2.2.2.1 ls) (hT : vm_T D κ base b adS L xs s.heap w H locs) :
    W p l e R s m args below meth c H locs (w.1 - n0) (w.2.1 - k0) Q (F0 m pc lsr (st.map (vm_v (vm_r base b adS)))) := by
  have CC := C
  obtain ⟨hx, hb, hml, hown, hts, hK, hAO, hN, hnm, hret, hlk, hX, hbb, hSI⟩ := C
  have hw1 : w.1 ≤ 1000 := hT.1.2.1
  unfold vm_chk at hch
  rw [Bool.and_eq_true] at hch
  replace hch := hch.2
  cases (show len = 1 from hlen)
  obtain ⟨v, e1, e2, rfl, rfl, rfl, rfl⟩ := vm_push_i (show vm_push (vm_ld ls k) vm_isA (pc + 1) ls st w = some (pc', ls', st', w') from hs)
  rcases vm_isA_i e2 with ⟨x, rfl⟩ | rfl
  · exact lv_aload_n hx hb hdg rfl (hL.2.2.2 _ _ e1) (kk _ _ _ hL hT)
  · exact lv_aload_nN hx hb hdg rfl (hL.2.2.2 _ _ e1) (kk _ _ _ hL hT)
set_option maxHeartbeats 1000000 in
theorem vm_s_istore_n (k : Fin 4) {pc len a bb cn o : Nat} (C : vm_C D κ base b adS adV L xs p s m args meth c r) (ho : vm_nm[o]? = some r.1) (hcl : r.2.1.cls = r.1) (hdg : decode r.2.2.1 pc = .ok ((.istore_n k), len)) (hlen : len = vm_len (.istore_n k) len)
    (hch : vm_chk o (pc, (.istore_n k), len, a, bb, cn) = true) (hd : d ≤ R.frames ∧ 40 * d + 20 ≤ R.locals)
    (hs : vm_step d r (pc, (.istore_n k), len, a, bb, cn) ls st w = some (pc', ls', st', w')) (hn : n0 ≤ w.1 ∧ k0 ≤ w.2.1) (hc : w'.1 ≤ n0 + R.cells ∧ w'.2.1 ≤ k0 + R.slots)
    (kk : ∀ lsr' H' locs', vm_LV (vm_r base b adS) lsr' r.2.2.2.1 ls' → vm_T D κ base b adS L xs s.heap w' H' locs' → W p l e R s m args below meth c H' locs' (w'.1 - n0) (w'.2.1 - k0) Q (F0 m pc' lsr' (st'.map (vm_v (vm_r base b adS)))))
    (hL : vm_LV (vm_r base b adS) lsr r.2.2.2.1 ls) (hT : vm_T D κ base b adS L xs s.heap w H locs) :
    W p l e R s m args below meth c H locs (w.1 - n0) (w.2.1 - k0) Q (F0 m pc lsr (st.map (vm_v (vm_r base b adS)))) := by
  have CC := C
  obtain ⟨hx, hb, hml, hown, hts, hK, hAO, hN, hnm, hret, hlk, hX, hbb, hSI⟩ := C
  have hw1 : w.1 ≤ 1000 := hT.1.2.1
  unfold vm_chk at hch
  rw [Bool.and_eq_true] at hch
  replace hch := hch.2
  cases (show len = 1 from hlen)
  obtain ⟨x, st0, rfl, e2, rfl, rfl, rfl, rfl⟩ := vm_sti_i (show vm_sti (pc + 1) k ls st w = some (pc', ls', st', w') from hs)
  exact lv_istore_n hx hb hdg rfl (vm_has hL) (by rw [← hL.1]; exact e2) rfl (fun ls2 h2 => kk _ _ _ (vm_LV_st1 (v := .int x) hL e2 h2) hT)
set_option maxHeartbeats 1000000 in
theorem vm_s_istore (k : Nat) {pc len a bb cn o : Nat} (C : vm_C D κ base b adS adV L xs p s m args meth c r) (ho : vm_nm[o]? = some r.1) (hcl : r.2.1.cls = r.1) (hdg : decode r.2.2.1 pc = .ok ((.istore k), len)) (hlen : len = vm_len (.istore k) len)
    (hch : vm_chk o (pc, (.istore k), len, a, bb, cn) = true) (hd : d ≤ R.frames ∧ 40 * d + 20 ≤ R.locals)
    (hs : vm_step d r (pc, (.istore k), len, a, bb, cn) ls st w = some (pc', ls', st', w')) (hn : n0 ≤ w.1 ∧ k0 ≤ w.2.1) (hc : w'.1 ≤ n0 + R.cells ∧ w'.2.1 ≤ k0 + R.slots)
    (kk : ∀ lsr' H' locs', vm_LV (vm_r base b adS) lsr' r.2.2.2.1 ls' → vm_T D κ base b adS L xs s.heap w' H' locs' → W p l e R s m args below meth c H' locs' (w'.1 - n0) (w'.2.1 - k0) Q (F0 m pc' lsr' (st'.map (vm_v (vm_r base b adS)))))
    (hL : vm_LV (vm_r base b adS) lsr r.2.2.2.1 ls) (hT : vm_T D κ base b adS L xs s.heap w H locs) :
    W p l e R s m args below meth c H locs (w.1 - n0) (w.2.1 - k0) Q (F0 m pc lsr (st.map (vm_v (vm_r base b adS)))) := by
  have CC := C
  obtain ⟨hx, hb, hml, hown, hts, hK, hAO, hN, hnm, hret, hlk, hX, hbb, hSI⟩ := C
  have hw1 : w.1 ≤ 1000 := hT.1.2.1
  unfold vm_chk at hch
  rw [Bool.and_eq_true] at hch
  replace hch := hch.2
  cases (show len = 2 from hlen)
  obtain ⟨x, st0, rfl, e2, rfl, rfl, rfl, rfl⟩ := vm_sti_i (show vm_sti (pc + 2) k ls st w = some (pc', ls', st', w') from hs)
  exact lv_istore hx hb hdg (vm_has hL) (by rw [← hL.1]; exact e2) rfl (fun ls2 h2 => kk _ _ _ (vm_LV_st1 (v := .int x) hL e2 h2) hT)
set_option maxHeartbeats 1000000 in
theorem vm_s_astore_n (k : Fin 4) {pc len a bb cn o : Nat} (C : vm_C D κ base b adS adV L xs p s m args meth c r) (ho : vm_nm[o]? = some r.1) (hcl : r.2.1.cls = r.1) (hdg : decode r.2.2.1 pc = .ok ((.astore_n k), len)) (hlen : len = vm_len (.astore_n k) len)
    (hch : vm_chk o (pc, (.astore_n k), len, a, bb, cn) = true) (hd : d ≤ R.frames ∧ 40 * d + 20 ≤ R.locals)
    (hs : vm_step d r (pc, (.astore_n k), len, a, bb, cn) ls st w = some (pc', ls', st', w')) (hn : n0 ≤ w.1 ∧ k0 ≤ w.2.1) (hc : w'.1 ≤ n0 + R.cells ∧ w'.2.1 ≤ k0 + R.slots)
    (kk : ∀ lsr' H' locs', vm_LV (vm_r base b adS) lsr' r.2.2.2.1 ls' → vm_T D κ base b adS L xs s.heap w' H' locs' → W p l e R s m args below meth c H' locs' (w'.1 - n0) (w'.2.1 - k0) Q (F0 m pc' lsr' (st'.map (vm_v (vm_r base b adS)))))
    (hL : vm_LV (vm_r base b adS) lsr r.2.2.2.1 ls) (hT : vm_T D κ base b adS L xs s.heap w H locs) :
    W p l e R s m args below meth c H locs (w.1 - n0) (w.2.1 - k0) Q (F0 m pc lsr (st.map (vm_v (vm_r base b adS)))) := by
  have CC := C
  obtain ⟨hx, hb, hml, hown, hts, hK, hAO, hN, hnm, hret, hlk, hX, hbb, hSI⟩ := C
  have hw1 : w.1 ≤ 1000 := hT.1.2.1
  unfold vm_chk at hch
  rw [Bool.and_eq_true] at hch
  replace hch := hch.2
  cases (show len = 1 from hlen)
  obtain ⟨v, st0, rfl, ev, e2, rfl, rfl, rfl, rfl⟩ := vm_sta_i (show vm_sta (pc + 1) k ls st w = some (pc', ls', st', w') from hs)
  rcases ev with ⟨x, rfl⟩ | rfl
  · exact lv_astore_n hx hb hdg rfl (vm_has hL) (by rw [← hL.1]; exact e2) rfl (fun ls2 h2 => kk _ _ _ (vm_LV_st1 (v := .ref x) hL e2 h2) hT)
  · exact lv_astore_nN hx hb hdg rfl (vm_has hL) (by rw [← hL.1]; exact e2) rfl (fun ls2 h2 => kk _ _ _ (vm_LV_st1 (v := .null) hL e2 h2) hT)
set_option maxHeartbeats 1000000 in
theorem vm_s_lstore_n (k : Fin 4) {pc len a bb cn o : Nat} (C : vm_C D κ base b adS adV L xs p s m args meth c r) (ho : vm_nm[o]? = some r.1) (hcl : r.2.1.cls = r.1) (hdg : decode r.2.2.1 pc = .ok ((.lstore_n k), len)) (hlen : len = vm_len (.lstore_n k) len)
    (hch : vm_chk o (pc, (.lstore_n k), len, a, bb, cn) = true) (hd : d ≤ R.frames ∧ 40 * d + 20 ≤ R.locals)
    (hs : vm_step d r (pc, (.lstore_n k), len, a, bb, cn) ls st w = some (pc', ls', st', w')) (hn : n0 ≤ w.1 ∧ k0 ≤ w.2.1) (hc : w'.1 ≤ n0 + R.cells ∧ w'.2.1 ≤ k0 + R.slots)
    (kk : ∀ lsr' H' locs', vm_LV (vm_r base b adS) lsr' r.2.2.2.1 ls' → vm_T D κ base b adS L xs s.heap w' H' locs' → W p l e R s m args below meth c H' locs' (w'.1 - n0) (w'.2.1 - k0) Q (F0 m pc' lsr' (st'.map (vm_v (vm_r base b adS)))))
    (hL : vm_LV (vm_r base b adS) lsr r.2.2.2.1 ls) (hT : vm_T D κ base b adS L xs s.heap w H locs) :
    W p l e R s m args below meth c H locs (w.1 - n0) (w.2.1 - k0) Q (F0 m pc lsr (st.map (vm_v (vm_r base b adS)))) := by
  have CC := C
  obtain ⟨hx, hb, hml, hown, hts, hK, hAO, hN, hnm, hret, hlk, hX, hbb, hSI⟩ := C
  have hw1 : w.1 ≤ 1000 := hT.1.2.1
  unfold vm_chk at hch
  rw [Bool.and_eq_true] at hch
  replace hch := hch.2
  cases (show len = 1 from hlen)
  obtain ⟨x, st0, rfl, e2, rfl, rfl, rfl, rfl⟩ := vm_stl_i (show vm_stl (pc + 1) k ls st w = some (pc', ls', st', w') from hs)
  exact lv_lstore_n hx hb hdg rfl (vm_has hL) (by rw [← hL.1]; exact e2) rfl (fun ls2 h2 => kk _ _ _ (vm_LV_st2 (v := .long x) hL e2 h2) hT)
set_option maxHeartbeats 1000000 in
theorem vm_s_lstore (k : Nat) {pc len a bb cn o : Nat} (C : vm_C D κ base b adS adV L xs p s m args meth c r) (ho : vm_nm[o]? = some r.1) (hcl : r.2.1.cls = r.1) (hdg : decode r.2.2.1 pc = .ok ((.lstore k), len)) (hlen : len = vm_len (.lstore k) len)
    (hch : vm_chk o (pc, (.lstore k), len, a, bb, cn) = true) (hd : d ≤ R.frames ∧ 40 * d + 20 ≤ R.locals)
    (hs : vm_step d r (pc, (.lstore k), len, a, bb, cn) ls st w = some (pc', ls', st', w')) (hn : n0 ≤ w.1 ∧ k0 ≤ w.2.1) (hc : w'.1 ≤ n0 + R.cells ∧ w'.2.1 ≤ k0 + R.slots)
    (kk : ∀ lsr' H' locs', vm_LV (vm_r base b adS) lsr' r.2.2.2.1 ls' → vm_T D κ base b adS L xs s.heap w' H' locs' → W p l e R s m args below meth c H' locs' (w'.1 - n0) (w'.2.1 - k0) Q (F0 m pc' lsr' (st'.map (vm_v (vm_r base b adS)))))
    (hL : vm_LV (vm_r base b adS) lsr r.2.2.2.1 ls) (hT : vm_T D κ base b adS L xs s.heap w H locs) :
    W p l e R s m args below meth c H locs (w.1 - n0) (w.2.1 - k0) Q (F0 m pc lsr (st.map (vm_v (vm_r base b adS)))) := by
  have CC := C
  obtain ⟨hx, hb, hml, hown, hts, hK, hAO, hN, hnm, hret, hlk, hX, hbb, hSI⟩ := C
  have hw1 : w.1 ≤ 1000 := hT.1.2.1
  unfold vm_chk at hch
  rw [Bool.and_eq_true] at hch
  replace hch := hch.2
  cases (show len = 2 from hlen)
  obtain ⟨x, st0, rfl, e2, rfl, rfl, rfl, rfl⟩ := vm_stl_i (show vm_stl (pc + 2) k ls st w = some (pc', ls', st', w') from hs)
  exact lv_lstore hx hb hdg (vm_has hL) (by rw [← hL.1]; exact e2) rfl (fun ls2 h2 => kk _ _ _ (vm_LV_st2 (v := .long x) hL e2 h2) hT)
set_option maxHeartbeats 1000000 in
theorem vm_s_iinc (k : Nat) (n : Int) {pc len a bb cn o : Nat} (C : vm_C D κ base b adS adV L xs p s m args meth c r) (ho : vm_nm[o]? = some r.1) (hcl : r.2.1.cls = r.1) (hdg : decode r.2.2.1 pc = .ok ((.iinc k n), len)) (hlen : len = vm_len (.iinc k n) len)
    (hch : vm_chk o (pc, (.iinc k n), len, a, bb, cn) = true) (hd : d ≤ R.frames ∧ 40 * d + 20 ≤ R.locals)
    (hs : vm_step d r (pc, (.iinc k n), len, a, bb, cn) ls st w = some (pc', ls', st', w')) (hn : n0 ≤ w.1 ∧ k0 ≤ w.2.1) (hc : w'.1 ≤ n0 + R.cells ∧ w'.2.1 ≤ k0 + R.slots)
    (kk : ∀ lsr' H' locs', vm_LV (vm_r base b adS) lsr' r.2.2.2.1 ls' → vm_T D κ base b adS L xs s.heap w' H' locs' → W p l e R s m args below meth c H' locs' (w'.1 - n0) (w'.2.1 - k0) Q (F0 m pc' lsr' (st'.map (vm_v (vm_r base b adS)))))
    (hL : vm_LV (vm_r base b adS) lsr r.2.2.2.1 ls) (hT : vm_T D κ base b adS L xs s.heap w H locs) :
    W p l e R s m args below meth c H locs (w.1 - n0) (w.2.1 - k0) Q (F0 m pc lsr (st.map (vm_v (vm_r base b adS)))) := by
  have CC := C
  obtain ⟨hx, hb, hml, hown, hts, hK, hAO, hN, hnm, hret, hlk, hX, hbb, hSI⟩ := C
  have hw1 : w.1 ≤ 1000 := hT.1.2.1
  unfold vm_chk at hch
  rw [Bool.and_eq_true] at hch
  replace hch := hch.2
  cases (show len = 3 from hlen)
  obtain ⟨x, e1, e2, rfl, rfl, rfl, rfl⟩ := vm_iinc_i (show vm_iinc pc k n ls st w = some (pc', ls', st', w') from hs)
  obtain ⟨j, hj⟩ := List.getElem?_of_mem (vm_kn_in (ρ := vm_r base b adS) e1)
  exact lv_iinc hx hb hdg (vm_has hL) hj rfl (by rw [← hL.1]; exact e2) rfl (fun ls2 h2 => kk _ _ _ (vm_LV_st1 (v := .int (x + Int32.ofInt n)) hL e2 h2) hT)
set_option maxHeartbeats 1000000 in
theorem vm_s_iadd  {pc len a bb cn o : Nat} (C : vm_C D κ base b adS adV L xs p s m args meth c r) (ho : vm_nm[o]? = some r.1) (hcl : r.2.1.cls = r.1) (hdg : decode r.2.2.1 pc = .ok (.iadd, len)) (hlen : len = vm_len .iadd len)
    (hch : vm_chk o (pc, .iadd, len, a, bb, cn) = true) (hd : d ≤ R.frames ∧ 40 * d + 20 ≤ R.locals)
    (hs : vm_step d r (pc, .iadd, len, a, bb, cn) ls st w = some (pc', ls', st', w')) (hn : n0 ≤ w.1 ∧ k0 ≤ w.2.1) (hc : w'.1 ≤ n0 + R.cells ∧ w'.2.1 ≤ k0 + R.slots)
    (kk : ∀ lsr' H' locs', vm_LV (vm_r base b adS) lsr' r.2.2.2.1 ls' → vm_T D κ base b adS L xs s.heap w' H' locs' → W p l e R s m args below meth c H' locs' (w'.1 - n0) (w'.2.1 - k0) Q (F0 m pc' lsr' (st'.map (vm_v (vm_r base b adS)))))
    (hL : vm_LV (vm_r base b adS) lsr r.2.2.2.1 ls) (hT : vm_T D κ base b adS L xs s.heap w H locs) :
    W p l e R s m args below meth c H locs (w.1 - n0) (w.2.1 - k0) Q (F0 m pc lsr (st.map (vm_v (vm_r base b adS)))) := by
  have CC := C
  obtain ⟨hx, hb, hml, hown, hts, hK, hAO, hN, hnm, hret, hlk, hX, hbb, hSI⟩ := C
  have hw1 : w.1 ≤ 1000 := hT.1.2.1
  unfold vm_chk at hch
  rw [Bool.and_eq_true] at hch
  replace hch := hch.2
  cases (show len = 1 from hlen)
  obtain ⟨x, y, z, st0, rfl, e2, rfl, rfl, rfl, rfl⟩ := vm_bin_i (show vm_bin pc ls st w (fun x y => some (x + y)) = some (pc', ls', st', w') from hs)
  cases e2
  exact lv_iadd hx hb hdg (kk _ _ _ hL hT)
set_option maxHeartbeats 1000000 in
theorem vm_s_isub  {pc len a bb cn o : Nat} (C : vm_C D κ base b adS adV L xs p s m args meth c r) (ho : vm_nm[o]? = some r.1) (hcl : r.2.1.cls = r.1) (hdg : decode r.2.2.1 pc = .ok (.isub, len)) (hlen : len = vm_len .isub len)
    (hch : vm_chk o (pc, .isub, len, a, bb, cn) = true) (hd : d ≤ R.frames ∧ 40 * d + 20 ≤ R.locals)
    (hs : vm_step d r (pc, .isub, len, a, bb, cn) ls st w = some (pc', ls', st', w')) (hn : n0 ≤ w.1 ∧ k0 ≤ w.2.1) (hc : w'.1 ≤ n0 + R.cells ∧ w'.2.1 ≤ k0 + R.slots)
    (kk : ∀ lsr' H' locs', vm_LV (vm_r base b adS) lsr' r.2.2.2.1 ls' → vm_T D κ base b adS L xs s.heap w' H' locs' → W p l e R s m args below meth c H' locs' (w'.1 - n0) (w'.2.1 - k0) Q (F0 m pc' lsr' (st'.map (vm_v (vm_r base b adS)))))
    (hL : vm_LV (vm_r base b adS) lsr r.2.2.2.1 ls) (hT : vm_T D κ base b adS L xs s.heap w H locs) :
    W p l e R s m args below meth c H locs (w.1 - n0) (w.2.1 - k0) Q (F0 m pc lsr (st.map (vm_v (vm_r base b adS)))) := by
  have CC := C
  obtain ⟨hx, hb, hml, hown, hts, hK, hAO, hN, hnm, hret, hlk, hX, hbb, hSI⟩ := C
  have hw1 : w.1 ≤ 1000 := hT.1.2.1
  unfold vm_chk at hch
  rw [Bool.and_eq_true] at hch
  replace hch := hch.2
  cases (show len = 1 from hlen)
  obtain ⟨x, y, z, st0, rfl, e2, rfl, rfl, rfl, rfl⟩ := vm_bin_i (show vm_bin pc ls st w (fun x y => some (x - y)) = some (pc', ls', st', w') from hs)
  cases e2
  exact lv_isub hx hb hdg (kk _ _ _ hL hT)
set_option maxHeartbeats 1000000 in
theorem vm_s_imul  {pc len a bb cn o : Nat} (C : vm_C D κ base b adS adV L xs p s m args meth c r) (ho : vm_nm[o]? = some r.1) (hcl : r.2.1.cls = r.1) (hdg : decode r.2.2.1 pc = .ok (.imul, len)) (hlen : len = vm_len .imul len)
    (hch : vm_chk o (pc, .imul, len, a, bb, cn) = true) (hd : d ≤ R.frames ∧ 40 * d + 20 ≤ R.locals)
    (hs : vm_step d r (pc, .imul, len, a, bb, cn) ls st w = some (pc', ls', st', w')) (hn : n0 ≤ w.1 ∧ k0 ≤ w.2.1) (hc : w'.1 ≤ n0 + R.cells ∧ w'.2.1 ≤ k0 + R.slots)
    (kk : ∀ lsr' H' locs', vm_LV (vm_r base b adS) lsr' r.2.2.2.1 ls' → vm_T D κ base b adS L xs s.heap w' H' locs' → W p l e R s m args below meth c H' locs' (w'.1 - n0) (w'.2.1 - k0) Q (F0 m pc' lsr' (st'.map (vm_v (vm_r base b adS)))))
    (hL : vm_LV (vm_r base b adS) lsr r.2.2.2.1 ls) (hT : vm_T D κ base b adS L xs s.heap w H locs) :
    W p l e R s m args below meth c H locs (w.1 - n0) (w.2.1 - k0) Q (F0 m pc lsr (st.map (vm_v (vm_r base b adS)))) := by
  have CC := C
  obtain ⟨hx, hb, hml, hown, hts, hK, hAO, hN, hnm, hret, hlk, hX, hbb, hSI⟩ := C
  have hw1 : w.1 ≤ 1000 := hT.1.2.1
  unfold vm_chk at hch
  rw [Bool.and_eq_true] at hch
  replace hch := hch.2
  cases (show len = 1 from hlen)
  obtain ⟨x, y, z, st0, rfl, e2, rfl, rfl, rfl, rfl⟩ := vm_bin_i (show vm_bin pc ls st w (fun x y => some (x * y)) = some (pc', ls', st', w') from hs)
  cases e2
  exact lv_imul hx hb hdg (kk _ _ _ hL hT)
set_option maxHeartbeats 1000000 in
theorem vm_s_idiv  {pc len a bb cn o : Nat} (C : vm_C D κ base b adS adV L xs p s m args meth c r) (ho : vm_nm[o]? = some r.1) (hcl : r.2.1.cls = r.1) (hdg : decode r.2.2.1 pc = .ok (.idiv, len)) (hlen : len = vm_len .idiv len)
    (hch : vm_chk o (pc, .idiv, len, a, bb, cn) = true) (hd : d ≤ R.frames ∧ 40 * d + 20 ≤ R.locals)
    (hs : vm_step d r (pc, .idiv, len, a, bb, cn) ls st w = some (pc', ls', st', w')) (hn : n0 ≤ w.1 ∧ k0 ≤ w.2.1) (hc : w'.1 ≤ n0 + R.cells ∧ w'.2.1 ≤ k0 + R.slots)
    (kk : ∀ lsr' H' locs', vm_LV (vm_r base b adS) lsr' r.2.2.2.1 ls' → vm_T D κ base b adS L xs s.heap w' H' locs' → W p l e R s m args below meth c H' locs' (w'.1 - n0) (w'.2.1 - k0) Q (F0 m pc' lsr' (st'.map (vm_v (vm_r base b adS)))))
    (hL : vm_LV (vm_r base b adS) lsr r.2.2.2.1 ls) (hT : vm_T D κ base b adS L xs s.heap w H locs) :
    W p l e R s m args below meth c H locs (w.1 - n0) (w.2.1 - k0) Q (F0 m pc lsr (st.map (vm_v (vm_r base b adS)))) := by
  have CC := C
  obtain ⟨hx, hb, hml, hown, hts, hK, hAO, hN, hnm, hret, hlk, hX, hbb, hSI⟩ := C
  have hw1 : w.1 ≤ 1000 := hT.1.2.1
  unfold vm_chk at hch
  rw [Bool.and_eq_true] at hch
  replace hch := hch.2
  cases (show len = 1 from hlen)
  obtain ⟨x, y, z, st0, rfl, e2, rfl, rfl, rfl, rfl⟩ := vm_bin_i (show vm_bin pc ls st w (fun x y => if y = 0 then none else some (x / y)) = some (pc', ls', st', w') from hs)
  by_cases hy : y = 0
  · rw [if_pos hy] at e2; cases e2
  · rw [if_neg hy] at e2
    cases e2
    exact lv_idiv hx hb hdg hy (kk _ _ _ hL hT)
set_option maxHeartbeats 1000000 in
theorem vm_s_irem  {pc len a bb cn o : Nat} (C : vm_C D κ base b adS adV L xs p s m args meth c r) (ho : vm_nm[o]? = some r.1) (hcl : r.2.1.cls = r.1) (hdg : decode r.2.2.1 pc = .ok (.irem, len)) (hlen : len = vm_len .irem len)
    (hch : vm_chk o (pc, .irem, len, a, bb, cn) = true) (hd : d ≤ R.frames ∧ 40 * d + 20 ≤ R.locals)
    (hs : vm_step d r (pc, .irem, len, a, bb, cn) ls st w = some (pc', ls', st', w')) (hn : n0 ≤ w.1 ∧ k0 ≤ w.2.1) (hc : w'.1 ≤ n0 + R.cells ∧ w'.2.1 ≤ k0 + R.slots)
    (kk : ∀ lsr' H' locs', vm_LV (vm_r base b adS) lsr' r.2.2.2.1 ls' → vm_T D κ base b adS L xs s.heap w' H' locs' → W p l e R s m args below meth c H' locs' (w'.1 - n0) (w'.2.1 - k0) Q (F0 m pc' lsr' (st'.map (vm_v (vm_r base b adS)))))
    (hL : vm_LV (vm_r base b adS) lsr r.2.2.2.1 ls) (hT : vm_T D κ base b adS L xs s.heap w H locs) :
    W p l e R s m args below meth c H locs (w.1 - n0) (w.2.1 - k0) Q (F0 m pc lsr (st.map (vm_v (vm_r base b adS)))) := by
  have CC := C
  obtain ⟨hx, hb, hml, hown, hts, hK, hAO, hN, hnm, hret, hlk, hX, hbb, hSI⟩ := C
  have hw1 : w.1 ≤ 1000 := hT.1.2.1
  unfold vm_chk at hch
  rw [Bool.and_eq_true] at hch
  replace hch := hch.2
  cases (show len = 1 from hlen)
  obtain ⟨x, y, z, st0, rfl, e2, rfl, rfl, rfl, rfl⟩ := vm_bin_i (show vm_bin pc ls st w (fun x y => if y = 0 then none else some (x - x / y * y)) = some (pc', ls', st', w') from hs)
  by_cases hy : y = 0
  · rw [if_pos hy] at e2; cases e2
  · rw [if_neg hy] at e2
    cases e2
    exact lv_irem hx hb hdg hy (kk _ _ _ hL hT)
set_option maxHeartbeats 1000000 in
theorem vm_s_iand  {pc len a bb cn o : Nat} (C : vm_C D κ base b adS adV L xs p s m args meth c r) (ho : vm_nm[o]? = some r.1) (hcl : r.2.1.cls = r.1) (hdg : decode r.2.2.1 pc = .ok (.iand, len)) (hlen : len = vm_len .iand len)
    (hch : vm_chk o (pc, .iand, len, a, bb, cn) = true) (hd : d ≤ R.frames ∧ 40 * d + 20 ≤ R.locals)
    (hs : vm_step d r (pc, .iand, len, a, bb, cn) ls st w = some (pc', ls', st', w')) (hn : n0 ≤ w.1 ∧ k0 ≤ w.2.1) (hc : w'.1 ≤ n0 + R.cells ∧ w'.2.1 ≤ k0 + R.slots)
    (kk : ∀ lsr' H' locs', vm_LV (vm_r base b adS) lsr' r.2.2.2.1 ls' → vm_T D κ base b adS L xs s.heap w' H' locs' → W p l e R s m args below meth c H' locs' (w'.1 - n0) (w'.2.1 - k0) Q (F0 m pc' lsr' (st'.map (vm_v (vm_r base b adS)))))
    (hL : vm_LV (vm_r base b adS) lsr r.2.2.2.1 ls) (hT : vm_T D κ base b adS L xs s.heap w H locs) :
    W p l e R s m args below meth c H locs (w.1 - n0) (w.2.1 - k0) Q (F0 m pc lsr (st.map (vm_v (vm_r base b adS)))) := by
  have CC := C
  obtain ⟨hx, hb, hml, hown, hts, hK, hAO, hN, hnm, hret, hlk, hX, hbb, hSI⟩ := C
  have hw1 : w.1 ≤ 1000 := hT.1.2.1
  unfold vm_chk at hch
  rw [Bool.and_eq_true] at hch
  replace hch := hch.2
  cases (show len = 1 from hlen)
  obtain ⟨x, y, z, st0, rfl, e2, rfl, rfl, rfl, rfl⟩ := vm_bin_i (show vm_bin pc ls st w (fun x y => some (x &&& y)) = some (pc', ls', st', w') from hs)
  cases e2
  exact lv_iand hx hb hdg (kk _ _ _ hL hT)
set_option maxHeartbeats 1000000 in
theorem vm_s_ior  {pc len a bb cn o : Nat} (C : vm_C D κ base b adS adV L xs p s m args meth c r) (ho : vm_nm[o]? = some r.1) (hcl : r.2.1.cls = r.1) (hdg : decode r.2.2.1 pc = .ok (.ior, len)) (hlen : len = vm_len .ior len)
    (hch : vm_chk o (pc, .ior, len, a, bb, cn) = true) (hd : d ≤ R.frames ∧ 40 * d + 20 ≤ R.locals)
    (hs : vm_step d r (pc, .ior, len, a, bb, cn) ls st w = some (pc', ls', st', w')) (hn : n0 ≤ w.1 ∧ k0 ≤ w.2.1) (hc : w'.1 ≤ n0 + R.cells ∧ w'.2.1 ≤ k0 + R.slots)
    (kk : ∀ lsr' H' locs', vm_LV (vm_r base b adS) lsr' r.2.2.2.1 ls' → vm_T D κ base b adS L xs s.heap w' H' locs' → W p l e R s m args below meth c H' locs' (w'.1 - n0) (w'.2.1 - k0) Q (F0 m pc' lsr' (st'.map (vm_v (vm_r base b adS)))))
    (hL : vm_LV (vm_r base b adS) lsr r.2.2.2.1 ls) (hT : vm_T D κ base b adS L xs s.heap w H locs) :
    W p l e R s m args below meth c H locs (w.1 - n0) (w.2.1 - k0) Q (F0 m pc lsr (st.map (vm_v (vm_r base b adS)))) := by
  have CC := C
  obtain ⟨hx, hb, hml, hown, hts, hK, hAO, hN, hnm, hret, hlk, hX, hbb, hSI⟩ := C
  have hw1 : w.1 ≤ 1000 := hT.1.2.1
  unfold vm_chk at hch
  rw [Bool.and_eq_true] at hch
  replace hch := hch.2
  cases (show len = 1 from hlen)
  obtain ⟨x, y, z, st0, rfl, e2, rfl, rfl, rfl, rfl⟩ := vm_bin_i (show vm_bin pc ls st w (fun x y => some (x ||| y)) = some (pc', ls', st', w') from hs)
  cases e2
  exact lv_ior hx hb hdg (kk _ _ _ hL hT)
set_option maxHeartbeats 1000000 in
theorem vm_s_ixor  {pc len a bb cn o : Nat} (C : vm_C D κ base b adS adV L xs p s m args meth c r) (ho : vm_nm[o]? = some r.1) (hcl : r.2.1.cls = r.1) (hdg : decode r.2.2.1 pc = .ok (.ixor, len)) (hlen : len = vm_len .ixor len)
    (hch : vm_chk o (pc, .ixor, len, a, bb, cn) = true) (hd : d ≤ R.frames ∧ 40 * d + 20 ≤ R.locals)
    (hs : vm_step d r (pc, .ixor, len, a, bb, cn) ls st w = some (pc', ls', st', w')) (hn : n0 ≤ w.1 ∧ k0 ≤ w.2.1) (hc : w'.1 ≤ n0 + R.cells ∧ w'.2.1 ≤ k0 + R.slots)
    (kk : ∀ lsr' H' locs', vm_LV (vm_r base b adS) lsr' r.2.2.2.1 ls' → vm_T D κ base b adS L xs s.heap w' H' locs' → W p l e R s m args below meth c H' locs' (w'.1 - n0) (w'.2.1 - k0) Q (F0 m pc' lsr' (st'.map (vm_v (vm_r base b adS)))))
    (hL : vm_LV (vm_r base b adS) lsr r.2.2.2.1 ls) (hT : vm_T D κ base b adS L xs s.heap w H locs) :
    W p l e R s m args below meth c H locs (w.1 - n0) (w.2.1 - k0) Q (F0 m pc lsr (st.map (vm_v (vm_r base b adS)))) := by
  have CC := C
  obtain ⟨hx, hb, hml, hown, hts, hK, hAO, hN, hnm, hret, hlk, hX, hbb, hSI⟩ := C
  have hw1 : w.1 ≤ 1000 := hT.1.2.1
  unfold vm_chk at hch
  rw [Bool.and_eq_true] at hch
  replace hch := hch.2
  cases (show len = 1 from hlen)
  obtain ⟨x, y, z, st0, rfl, e2, rfl, rfl, rfl, rfl⟩ := vm_bin_i (show vm_bin pc ls st w (fun x y => some (x ^^^ y)) = some (pc', ls', st', w') from hs)
  cases e2
  exact lv_ixor hx hb hdg (kk _ _ _ hL hT)
set_option maxHeartbeats 1000000 in
theorem vm_s_ishl  {pc len a bb cn o : Nat} (C : vm_C D κ base b adS adV L xs p s m args meth c r) (ho : vm_nm[o]? = some r.1) (hcl : r.2.1.cls = r.1) (hdg : decode r.2.2.1 pc = .ok (.ishl, len)) (hlen : len = vm_len .ishl len)
    (hch : vm_chk o (pc, .ishl, len, a, bb, cn) = true) (hd : d ≤ R.frames ∧ 40 * d + 20 ≤ R.locals)
    (hs : vm_step d r (pc, .ishl, len, a, bb, cn) ls st w = some (pc', ls', st', w')) (hn : n0 ≤ w.1 ∧ k0 ≤ w.2.1) (hc : w'.1 ≤ n0 + R.cells ∧ w'.2.1 ≤ k0 + R.slots)
    (kk : ∀ lsr' H' locs', vm_LV (vm_r base b adS) lsr' r.2.2.2.1 ls' → vm_T D κ base b adS L xs s.heap w' H' locs' → W p l e R s m args below meth c H' locs' (w'.1 - n0) (w'.2.1 - k0) Q (F0 m pc' lsr' (st'.map (vm_v (vm_r base b adS)))))
    (hL : vm_LV (vm_r base b adS) lsr r.2.2.2.1 ls) (hT : vm_T D κ base b adS L xs s.heap w H locs) :
    W p l e R s m args below meth c H locs (w.1 - n0) (w.2.1 - k0) Q (F0 m pc lsr (st.map (vm_v (vm_r base b adS)))) := by
  have CC := C
  obtain ⟨hx, hb, hml, hown, hts, hK, hAO, hN, hnm, hret, hlk, hX, hbb, hSI⟩ := C
  have hw1 : w.1 ≤ 1000 := hT.1.2.1
  unfold vm_chk at hch
  rw [Bool.and_eq_true] at hch
  replace hch := hch.2
  cases (show len = 1 from hlen)
  obtain ⟨x, y, z, st0, rfl, e2, rfl, rfl, rfl, rfl⟩ := vm_bin_i (show vm_bin pc ls st w (fun x y => some (x <<< (y &&& 31))) = some (pc', ls', st', w') from hs)
  cases e2
  exact lv_ishl hx hb hdg (kk _ _ _ hL hT)
set_option maxHeartbeats 1000000 in
theorem vm_s_ishr  {pc len a bb cn o : Nat} (C : vm_C D κ base b adS adV L xs p s m args meth c r) (ho : vm_nm[o]? = some r.1) (hcl : r.2.1.cls = r.1) (hdg : decode r.2.2.1 pc = .ok (.ishr, len)) (hlen : len = vm_len .ishr len)
    (hch : vm_chk o (pc, .ishr, len, a, bb, cn) = true) (hd : d ≤ R.frames ∧ 40 * d + 20 ≤ R.locals)
    (hs : vm_step d r (pc, .ishr, len, a, bb, cn) ls st w = some (pc', ls', st', w')) (hn : n0 ≤ w.1 ∧ k0 ≤ w.2.1) (hc : w'.1 ≤ n0 + R.cells ∧ w'.2.1 ≤ k0 + R.slots)
    (kk : ∀ lsr' H' locs', vm_LV (vm_r base b adS) lsr' r.2.2.2.1 ls' → vm_T D κ base b adS L xs s.heap w' H' locs' → W p l e R s m args below meth c H' locs' (w'.1 - n0) (w'.2.1 - k0) Q (F0 m pc' lsr' (st'.map (vm_v (vm_r base b adS)))))
    (hL : vm_LV (vm_r base b adS) lsr r.2.2.2.1 ls) (hT : vm_T D κ base b adS L xs s.heap w H locs) :
    W p l e R s m args below meth c H locs (w.1 - n0) (w.2.1 - k0) Q (F0 m pc lsr (st.map (vm_v (vm_r base b adS)))) := by
  have CC := C
  obtain ⟨hx, hb, hml, hown, hts, hK, hAO, hN, hnm, hret, hlk, hX, hbb, hSI⟩ := C
  have hw1 : w.1 ≤ 1000 := hT.1.2.1
  unfold vm_chk at hch
  rw [Bool.and_eq_true] at hch
  replace hch := hch.2
  cases (show len = 1 from hlen)
  obtain ⟨x, y, z, st0, rfl, e2, rfl, rfl, rfl, rfl⟩ := vm_bin_i (show vm_bin pc ls st w (fun x y => some (x >>> (y &&& 31))) = some (pc', ls', st', w') from hs)
  cases e2
  exact lv_ishr hx hb hdg (kk _ _ _ hL hT)
set_option maxHeartbeats 1000000 in
theorem vm_s_ladd  {pc len a bb cn o : Nat} (C : vm_C D κ base b adS adV L xs p s m args meth c r) (ho : vm_nm[o]? = some r.1) (hcl : r.2.1.cls = r.1) (hdg : decode r.2.2.1 pc = .ok (.ladd, len)) (hlen : len = vm_len .ladd len)
    (hch : vm_chk o (pc, .ladd, len, a, bb, cn) = true) (hd : d ≤ R.frames ∧ 40 * d + 20 ≤ R.locals)
    (hs : vm_step d r (pc, .ladd, len, a, bb, cn) ls st w = some (pc', ls', st', w')) (hn : n0 ≤ w.1 ∧ k0 ≤ w.2.1) (hc : w'.1 ≤ n0 + R.cells ∧ w'.2.1 ≤ k0 + R.slots)
    (kk : ∀ lsr' H' locs', vm_LV (vm_r base b adS) lsr' r.2.2.2.1 ls' → vm_T D κ base b adS L xs s.heap w' H' locs' → W p l e R s m args below meth c H' locs' (w'.1 - n0) (w'.2.1 - k0) Q (F0 m pc' lsr' (st'.map (vm_v (vm_r base b adS)))))
    (hL : vm_LV (vm_r base b adS) lsr r.2.2.2.1 ls) (hT : vm_T D κ base b adS L xs s.heap w H locs) :
    W p l e R s m args below meth c H locs (w.1 - n0) (w.2.1 - k0) Q (F0 m pc lsr (st.map (vm_v (vm_r base b adS)))) := by
  have CC := C
  obtain ⟨hx, hb, hml, hown, hts, hK, hAO, hN, hnm, hret, hlk, hX, hbb, hSI⟩ := C
  have hw1 : w.1 ≤ 1000 := hT.1.2.1
  unfold vm_chk at hch
  rw [Bool.and_eq_true] at hch
  replace hch := hch.2
  cases (show len = 1 from hlen)
  obtain ⟨x, y, z, st0, rfl, e2, rfl, rfl, rfl, rfl⟩ := vm_lbin_i (show vm_lbin pc ls st w (fun x y => some (.long (x + y))) = some (pc', ls', st', w') from hs)
  cases e2
  exact lv_ladd hx hb hdg (kk _ _ _ hL hT)
set_option maxHeartbeats 1000000 in
theorem vm_s_lmul  {pc len a bb cn o : Nat} (C : vm_C D κ base b adS adV L xs p s m args meth c r) (ho : vm_nm[o]? = some r.1) (hcl : r.2.1.cls = r.1) (hdg : decode r.2.2.1 pc = .ok (.lmul, len)) (hlen : len = vm_len .lmul len)
    (hch : vm_chk o (pc, .lmul, len, a, bb, cn) = true) (hd : d ≤ R.frames ∧ 40 * d + 20 ≤ R.locals)
    (hs : vm_step d r (pc, .lmul, len, a, bb, cn) ls st w = some (pc', ls', st', w')) (hn : n0 ≤ w.1 ∧ k0 ≤ w.2.1) (hc : w'.1 ≤ n0 + R.cells ∧ w'.2.1 ≤ k0 + R.slots)
    (kk : ∀ lsr' H' locs', vm_LV (vm_r base b adS) lsr' r.2.2.2.1 ls' → vm_T D κ base b adS L xs s.heap w' H' locs' → W p l e R s m args below meth c H' locs' (w'.1 - n0) (w'.2.1 - k0) Q (F0 m pc' lsr' (st'.map (vm_v (vm_r base b adS)))))
    (hL : vm_LV (vm_r base b adS) lsr r.2.2.2.1 ls) (hT : vm_T D κ base b adS L xs s.heap w H locs) :
    W p l e R s m args below meth c H locs (w.1 - n0) (w.2.1 - k0) Q (F0 m pc lsr (st.map (vm_v (vm_r base b adS)))) := by
  have CC := C
  obtain ⟨hx, hb, hml, hown, hts, hK, hAO, hN, hnm, hret, hlk, hX, hbb, hSI⟩ := C
  have hw1 : w.1 ≤ 1000 := hT.1.2.1
  unfold vm_chk at hch
  rw [Bool.and_eq_true] at hch
  replace hch := hch.2
  cases (show len = 1 from hlen)
  obtain ⟨x, y, z, st0, rfl, e2, rfl, rfl, rfl, rfl⟩ := vm_lbin_i (show vm_lbin pc ls st w (fun x y => some (.long (x * y))) = some (pc', ls', st', w') from hs)
  cases e2
  exact lv_lmul hx hb hdg (kk _ _ _ hL hT)
set_option maxHeartbeats 1000000 in
theorem vm_s_ldiv  {pc len a bb cn o : Nat} (C : vm_C D κ base b adS adV L xs p s m args meth c r) (ho : vm_nm[o]? = some r.1) (hcl : r.2.1.cls = r.1) (hdg : decode r.2.2.1 pc = .ok (.ldiv, len)) (hlen : len = vm_len .ldiv len)
    (hch : vm_chk o (pc, .ldiv, len, a, bb, cn) = true) (hd : d ≤ R.frames ∧ 40 * d + 20 ≤ R.locals)
    (hs : vm_step d r (pc, .ldiv, len, a, bb, cn) ls st w = some (pc', ls', st', w')) (hn : n0 ≤ w.1 ∧ k0 ≤ w.2.1) (hc : w'.1 ≤ n0 + R.cells ∧ w'.2.1 ≤ k0 + R.slots)
    (kk : ∀ lsr' H' locs', vm_LV (vm_r base b adS) lsr' r.2.2.2.1 ls' → vm_T D κ base b adS L xs s.heap w' H' locs' → W p l e R s m args below meth c H' locs' (w'.1 - n0) (w'.2.1 - k0) Q (F0 m pc' lsr' (st'.map (vm_v (vm_r base b adS)))))
    (hL : vm_LV (vm_r base b adS) lsr r.2.2.2.1 ls) (hT : vm_T D κ base b adS L xs s.heap w H locs) :
    W p l e R s m args below meth c H locs (w.1 - n0) (w.2.1 - k0) Q (F0 m pc lsr (st.map (vm_v (vm_r base b adS)))) := by
  have CC := C
  obtain ⟨hx, hb, hml, hown, hts, hK, hAO, hN, hnm, hret, hlk, hX, hbb, hSI⟩ := C
  have hw1 : w.1 ≤ 1000 := hT.1.2.1
  unfold vm_chk at hch
  rw [Bool.and_eq_true] at hch
  replace hch := hch.2
  cases (show len = 1 from hlen)
  obtain ⟨x, y, z, st0, rfl, e2, rfl, rfl, rfl, rfl⟩ := vm_lbin_i (show vm_lbin pc ls st w (fun x y => if y = 0 then none else some (.long (x / y))) = some (pc', ls', st', w') from hs)
  by_cases hy : y = 0
  · rw [if_pos hy] at e2; cases e2
  · rw [if_neg hy] at e2
    cases e2
    exact lv_ldiv hx hb hdg hy (kk _ _ _ hL hT)
set_option maxHeartbeats 1000000 in
theorem vm_s_lrem  {pc len a bb cn o : Nat} (C : vm_C D κ base b adS adV L xs p s m args meth c r) (ho : vm_nm[o]? = some r.1) (hcl : r.2.1.cls = r.1) (hdg : decode r.2.2.1 pc = .ok (.lrem, len)) (hlen : len = vm_len .lrem len)
    (hch : vm_chk o (pc, .lrem, len, a, bb, cn) = true) (hd : d ≤ R.frames ∧ 40 * d + 20 ≤ R.locals)
    (hs : vm_step d r (pc, .lrem, len, a, bb, cn) ls st w = some (pc', ls', st', w')) (hn : n0 ≤ w.1 ∧ k0 ≤ w.2.1) (hc : w'.1 ≤ n0 + R.cells ∧ w'.2.1 ≤ k0 + R.slots)
    (kk : ∀ lsr' H' locs', vm_LV (vm_r base b adS) lsr' r.2.2.2.1 ls' → vm_T D κ base b adS L xs s.heap w' H' locs' → W p l e R s m args below meth c H' locs' (w'.1 - n0) (w'.2.1 - k0) Q (F0 m pc' lsr' (st'.map (vm_v (vm_r base b adS)))))
    (hL : vm_LV (vm_r base b adS) lsr r.2.2.2.1 ls) (hT : vm_T D κ base b adS L xs s.heap w H locs) :
    W p l e R s m args below meth c H locs (w.1 - n0) (w.2.1 - k0) Q (F0 m pc lsr (st.map (vm_v (vm_r base b adS)))) := by
  have CC := C
  obtain ⟨hx, hb, hml, hown, hts, hK, hAO, hN, hnm, hret, hlk, hX, hbb, hSI⟩ := C
  have hw1 : w.1 ≤ 1000 := hT.1.2.1
  unfold vm_chk at hch
  rw [Bool.and_eq_true] at hch
  replace hch := hch.2
  cases (show len = 1 from hlen)
  obtain ⟨x, y, z, st0, rfl, e2, rfl, rfl, rfl, rfl⟩ := vm_lbin_i (show vm_lbin pc ls st w (fun x y => if y = 0 then none else some (.long (x - x / y * y))) = some (pc', ls', st', w') from hs)
  by_cases hy : y = 0
  · rw [if_pos hy] at e2; cases e2
  · rw [if_neg hy] at e2
    cases e2
    exact lv_lrem hx hb hdg hy (kk _ _ _ hL hT)
set_option maxHeartbeats 1000000 in
theorem vm_s_lcmp  {pc len a bb cn o : Nat} (C : vm_C D κ base b adS adV L xs p s m args meth c r) (ho : vm_nm[o]? = some r.1) (hcl : r.2.1.cls = r.1) (hdg : decode r.2.2.1 pc = .ok (.lcmp, len)) (hlen : len = vm_len .lcmp len)
    (hch : vm_chk o (pc, .lcmp, len, a, bb, cn) = true) (hd : d ≤ R.frames ∧ 40 * d + 20 ≤ R.locals)
    (hs : vm_step d r (pc, .lcmp, len, a, bb, cn) ls st w = some (pc', ls', st', w')) (hn : n0 ≤ w.1 ∧ k0 ≤ w.2.1) (hc : w'.1 ≤ n0 + R.cells ∧ w'.2.1 ≤ k0 + R.slots)
    (kk : ∀ lsr' H' locs', vm_LV (vm_r base b adS) lsr' r.2.2.2.1 ls' → vm_T D κ base b adS L xs s.heap w' H' locs' → W p l e R s m args below meth c H' locs' (w'.1 - n0) (w'.2.1 - k0) Q (F0 m pc' lsr' (st'.map (vm_v (vm_r base b adS)))))
    (hL : vm_LV (vm_r base b adS) lsr r.2.2.2.1 ls) (hT : vm_T D κ base b adS L xs s.heap w H locs) :
    W p l e R s m args below meth c H locs (w.1 - n0) (w.2.1 - k0) Q (F0 m pc lsr (st.map (vm_v (vm_r base b adS)))) := by
  have CC := C
  obtain ⟨hx, hb, hml, hown, hts, hK, hAO, hN, hnm, hret, hlk, hX, hbb, hSI⟩ := C
  have hw1 : w.1 ≤ 1000 := hT.1.2.1
  unfold vm_chk at hch
  rw [Bool.and_eq_true] at hch
  replace hch := hch.2
  cases (show len = 1 from hlen)
  obtain ⟨x, y, z, st0, rfl, e2, rfl, rfl, rfl, rfl⟩ := vm_lbin_i (show vm_lbin pc ls st w (fun x y => some (.int (lg_cmp x y))) = some (pc', ls', st', w') from hs)
  cases e2
  exact W.lcmp hx hb hdg (kk _ _ _ hL hT)
set_option maxHeartbeats 1000000 in
theorem vm_s_i2l  {pc len a bb cn o : Nat} (C : vm_C D κ base b adS adV L xs p s m args meth c r) (ho : vm_nm[o]? = some r.1) (hcl : r.2.1.cls = r.1) (hdg : decode r.2.2.1 pc = .ok (.i2l, len)) (hlen : len = vm_len .i2l len)
    (hch : vm_chk o (pc, .i2l, len, a, bb, cn) = true) (hd : d ≤ R.frames ∧ 40 * d + 20 ≤ R.locals)
    (hs : vm_step d r (pc, .i2l, len, a, bb, cn) ls st w = some (pc', ls', st', w')) (hn : n0 ≤ w.1 ∧ k0 ≤ w.2.1) (hc : w'.1 ≤ n0 + R.cells ∧ w'.2.1 ≤ k0 + R.slots)
    (kk : ∀ lsr' H' locs', vm_LV (vm_r base b adS) lsr' r.2.2.2.1 ls' → vm_T D κ base b adS L xs s.heap w' H' locs' → W p l e R s m args below meth c H' locs' (w'.1 - n0) (w'.2.1 - k0) Q (F0 m pc' lsr' (st'.map (vm_v (vm_r base b adS)))))
    (hL : vm_LV (vm_r base b adS) lsr r.2.2.2.1 ls) (hT : vm_T D κ base b adS L xs s.heap w H locs) :
    W p l e R s m args below meth c H locs (w.1 - n0) (w.2.1 - k0) Q (F0 m pc lsr (st.map (vm_v (vm_r base b adS)))) := by
  have CC := C
  obtain ⟨hx, hb, hml, hown, hts, hK, hAO, hN, hnm, hret, hlk, hX, hbb, hSI⟩ := C
  have hw1 : w.1 ≤ 1000 := hT.1.2.1
  unfold vm_chk at hch
  rw [Bool.and_eq_true] at hch
  replace hch := hch.2
  cases (show len = 1 from hlen)
  obtain ⟨x, st0, rfl, rfl, rfl, rfl, rfl⟩ := vm_i2l_i (show vm_i2l pc ls st w = some (pc', ls', st', w') from hs)
  exact lv_i2l hx hb hdg rfl (kk _ _ _ hL hT)
set_option maxHeartbeats 1000000 in
theorem vm_s_l2i  {pc len a bb cn o : Nat} (C : vm_C D κ base b adS adV L xs p s m args meth c r) (ho : vm_nm[o]? = some r.1) (hcl : r.2.1.cls = r.1) (hdg : decode r.2.2.1 pc = .ok (.l2i, len)) (hlen : len = vm_len .l2i len)
    (hch : vm_chk o (pc, .l2i, len, a, bb, cn) = true) (hd : d ≤ R.frames ∧ 40 * d + 20 ≤ R.locals)
    (hs : vm_step d r (pc, .l2i, len, a, bb, cn) ls st w = some (pc', ls', st', w')) (hn : n0 ≤ w.1 ∧ k0 ≤ w.2.1) (hc : w'.1 ≤ n0 + R.cells ∧ w'.2.1 ≤ k0 + R.slots)
    (kk : ∀ lsr' H' locs', vm_LV (vm_r base b adS) lsr' r.2.2.2.1 ls' → vm_T D κ base b adS L xs s.heap w' H' locs' → W p l e R s m args below meth c H' locs' (w'.1 - n0) (w'.2.1 - k0) Q (F0 m pc' lsr' (st'.map (vm_v (vm_r base b adS)))))
    (hL : vm_LV (vm_r base b adS) lsr r.2.2.2.1 ls) (hT : vm_T D κ base b adS L xs s.heap w H locs) :
    W p l e R s m args below meth c H locs (w.1 - n0) (w.2.1 - k0) Q (F0 m pc lsr (st.map (vm_v (vm_r base b adS)))) := by
  have CC := C
  obtain ⟨hx, hb, hml, hown, hts, hK, hAO, hN, hnm, hret, hlk, hX, hbb, hSI⟩ := C
  have hw1 : w.1 ≤ 1000 := hT.1.2.1
  unfold vm_chk at hch
  rw [Bool.and_eq_true] at hch
  replace hch := hch.2
  cases (show len = 1 from hlen)
  obtain ⟨x, st0, rfl, rfl, rfl, rfl, rfl⟩ := vm_l2i_i (show vm_l2i pc ls st w = some (pc', ls', st', w') from hs)
  exact lv_l2i hx hb hdg rfl (kk _ _ _ hL hT)
set_option maxHeartbeats 1000000 in
theorem vm_s_dup  {pc len a bb cn o : Nat} (C : vm_C D κ base b adS adV L xs p s m args meth c r) (ho : vm_nm[o]? = some r.1) (hcl : r.2.1.cls = r.1) (hdg : decode r.2.2.1 pc = .ok (.dup, len)) (hlen : len = vm_len .dup len)
    (hch : vm_chk o (pc, .dup, len, a, bb, cn) = true) (hd : d ≤ R.frames ∧ 40 * d + 20 ≤ R.locals)
    (hs : vm_step d r (pc, .dup, len, a, bb, cn) ls st w = some (pc', ls', st', w')) (hn : n0 ≤ w.1 ∧ k0 ≤ w.2.1) (hc : w'.1 ≤ n0 + R.cells ∧ w'.2.1 ≤ k0 + R.slots)
    (kk : ∀ lsr' H' locs', vm_LV (vm_r base b adS) lsr' r.2.2.2.1 ls' → vm_T D κ base b adS L xs s.heap w' H' locs' → W p l e R s m args below meth c H' locs' (w'.1 - n0) (w'.2.1 - k0) Q (F0 m pc' lsr' (st'.map (vm_v (vm_r base b adS)))))
    (hL : vm_LV (vm_r base b adS) lsr r.2.2.2.1 ls) (hT : vm_T D κ base b adS L xs s.heap w H locs) :
    W p l e R s m args below meth c H locs (w.1 - n0) (w.2.1 - k0) Q (F0 m pc lsr (st.map (vm_v (vm_r base b adS)))) := by
  have CC := C
  obtain ⟨hx, hb, hml, hown, hts, hK, hAO, hN, hnm, hret, hlk, hX, hbb, hSI⟩ := C
  have hw1 : w.1 ≤ 1000 := hT.1.2.1
  unfold vm_chk at hch
  rw [Bool.and_eq_true] at hch
  replace hch := hch.2
  cases (show len = 1 from hlen)
  obtain ⟨va, st0, rfl, e2, rfl, rfl, rfl, rfl⟩ := vm_dup_i (show vm_dup pc ls st w = some (pc', ls', st', w') from hs)
  exact lv_dup hx hb hdg ((vm_v_cat _ _).trans e2) (kk _ _ _ hL hT)
set_option maxHeartbeats 1000000 in
theorem vm_s_pop  {pc len a bb cn o : Nat} (C : vm_C D κ base b adS adV L xs p s m args meth c r) (ho : vm_nm[o]? = some r.1) (hcl : r.2.1.cls = r.1) (hdg : decode r.2.2.1 pc = .ok (.pop, len)) (hlen : len = vm_len .pop len)
    (hch : vm_chk o (pc, .pop, len, a, bb, cn) = true) (hd : d ≤ R.frames ∧ 40 * d + 20 ≤ R.locals)
    (hs : vm_step d r (pc, .pop, len, a, bb, cn) ls st w = some (pc', ls', st', w')) (hn : n0 ≤ w.1 ∧ k0 ≤ w.2.1) (hc : w'.1 ≤ n0 + R.cells ∧ w'.2.1 ≤ k0 + R.slots)
    (kk : ∀ lsr' H' locs', vm_LV (vm_r base b adS) lsr' r.2.2.2.1 ls' → vm_T D κ base b adS L xs s.heap w' H' locs' → W p l e R s m args below meth c H' locs' (w'.1 - n0) (w'.2.1 - k0) Q (F0 m pc' lsr' (st'.map (vm_v (vm_r base b adS)))))
    (hL : vm_LV (vm_r base b adS) lsr r.2.2.2.1 ls) (hT : vm_T D κ base b adS L xs s.heap w H locs) :
    W p l e R s m args below meth c H locs (w.1 - n0) (w.2.1 - k0) Q (F0 m pc lsr (st.map (vm_v (vm_r base b adS)))) := by
  have CC := C
  obtain ⟨hx, hb, hml, hown, hts, hK, hAO, hN, hnm, hret, hlk, hX, hbb, hSI⟩ := C
  have hw1 : w.1 ≤ 1000 := hT.1.2.1
  unfold vm_chk at hch
  rw [Bool.and_eq_true] at hch
  replace hch := hch.2
  cases (show len = 1 from hlen)
  obtain ⟨va, st0, rfl, e2, rfl, rfl, rfl, rfl⟩ := vm_pop_i (show vm_pop pc ls st w = some (pc', ls', st', w') from hs)
  exact lv_pop hx hb hdg ((vm_v_cat _ _).trans e2) (kk _ _ _ hL hT)
set_option maxHeartbeats 1000000 in
theorem vm_s_dup2  {pc len a bb cn o : Nat} (C : vm_C D κ base b adS adV L xs p s m args meth c r) (ho : vm_nm[o]? = some r.1) (hcl : r.2.1.cls = r.1) (hdg : decode r.2.2.1 pc = .ok (.dup2, len)) (hlen : len = vm_len .dup2 len)
    (hch : vm_chk o (pc, .dup2, len, a, bb, cn) = true) (hd : d ≤ R.frames ∧ 40 * d + 20 ≤ R.locals)
    (hs : vm_step d r (pc, .dup2, len, a, bb, cn) ls st w = some (pc', ls', st', w')) (hn : n0 ≤ w.1 ∧ k0 ≤ w.2.1) (hc : w'.1 ≤ n0 + R.cells ∧ w'.2.1 ≤ k0 + R.slots)
    (kk : ∀ lsr' H' locs', vm_LV (vm_r base b adS) lsr' r.2.2.2.1 ls' → vm_T D κ base b adS L xs s.heap w' H' locs' → W p l e R s m args below meth c H' locs' (w'.1 - n0) (w'.2.1 - k0) Q (F0 m pc' lsr' (st'.map (vm_v (vm_r base b adS)))))
    (hL : vm_LV (vm_r base b adS) lsr r.2.2.2.1 ls) (hT : vm_T D κ base b adS L xs s.heap w H locs) :
    W p l e R s m args below meth c H locs (w.1 - n0) (w.2.1 - k0) Q (F0 m pc lsr (st.map (vm_v (vm_r base b adS)))) := by
  have CC := C
  obtain ⟨hx, hb, hml, hown, hts, hK, hAO, hN, hnm, hret, hlk, hX, hbb, hSI⟩ := C
  have hw1 : w.1 ≤ 1000 := hT.1.2.1
  unfold vm_chk at hch
  rw [Bool.and_eq_true] at hch
  replace hch := hch.2
  cases (show len = 1 from hlen)
  obtain ⟨va, vb, st0, rfl, e2, e3, rfl, rfl, rfl, rfl⟩ := vm_dup2_i (show vm_dup2 pc ls st w = some (pc', ls', st', w') from hs)
  exact lv_dup2_11 hx hb hdg ((vm_v_cat _ _).trans e2) ((vm_v_cat _ _).trans e3) (kk _ _ _ hL hT)
set_option maxHeartbeats 1000000 in
theorem vm_s_goto (off : Int) {pc len a bb cn o : Nat} (C : vm_C D κ base b adS adV L xs p s m args meth c r) (ho : vm_nm[o]? = some r.1) (hcl : r.2.1.cls = r.1) (hdg : decode r.2.2.1 pc = .ok ((.goto off), len)) (hlen : len = vm_len (.goto off) len)
    (hch : vm_chk o (pc, (.goto off), len, a, bb, cn) = true) (hd : d ≤ R.frames ∧ 40 * d + 20 ≤ R.locals)
    (hs : vm_step d r (pc, (.goto off), len, a, bb, cn) ls st w = some (pc', ls', st', w')) (hn : n0 ≤ w.1 ∧ k0 ≤ w.2.1) (hc : w'.1 ≤ n0 + R.cells ∧ w'.2.1 ≤ k0 + R.slots)
    (kk : ∀ lsr' H' locs', vm_LV (vm_r base b adS) lsr' r.2.2.2.1 ls' → vm_T D κ base b adS L xs s.heap w' H' locs' → W p l e R s m args below meth c H' locs' (w'.1 - n0) (w'.2.1 - k0) Q (F0 m pc' lsr' (st'.map (vm_v (vm_r base b adS)))))
    (hL : vm_LV (vm_r base b adS) lsr r.2.2.2.1 ls) (hT : vm_T D κ base b adS L xs s.heap w H locs) :
    W p l e R s m args below meth c H locs (w.1 - n0) (w.2.1 - k0) Q (F0 m pc lsr (st.map (vm_v (vm_r base b adS)))) := by
  have CC := C
  obtain ⟨hx, hb, hml, hown, hts, hK, hAO, hN, hnm, hret, hlk, hX, hbb, hSI⟩ := C
  have hw1 : w.1 ≤ 1000 := hT.1.2.1
  unfold vm_chk at hch
  rw [Bool.and_eq_true] at hch
  replace hch := hch.2
  cases (show len = 3 from hlen)
  obtain ⟨e1, rfl, rfl, rfl⟩ := vm_jmp_i (show vm_jmp pc off ls st w = some (pc', ls', st', w') from hs)
  exact lv_goto hx hb hdg e1 (kk _ _ _ hL hT)
set_option maxHeartbeats 1000000 in
theorem vm_s_ifCond (cd : Jvm.ClassFile.Cond) (off : Int) {pc len a bb cn o : Nat} (C : vm_C D κ base b adS adV L xs p s m args meth c r) (ho : vm_nm[o]? = some r.1) (hcl : r.2.1.cls = r.1) (hdg : decode r.2.2.1 pc = .ok ((.ifCond cd off), len)) (hlen : len = vm_len (.ifCond cd off) len)
    (hch : vm_chk o (pc, (.ifCond cd off), len, a, bb, cn) = true) (hd : d ≤ R.frames ∧ 40 * d + 20 ≤ R.locals)
    (hs : vm_step d r (pc, (.ifCond cd off), len, a, bb, cn) ls st w = some (pc', ls', st', w')) (hn : n0 ≤ w.1 ∧ k0 ≤ w.2.1) (hc : w'.1 ≤ n0 + R.cells ∧ w'.2.1 ≤ k0 + R.slots)
    (kk : ∀ lsr' H' locs', vm_LV (vm_r base b adS) lsr' r.2.2.2.1 ls' → vm_T D κ base b adS L xs s.heap w' H' locs' → W p l e R s m args below meth c H' locs' (w'.1 - n0) (w'.2.1 - k0) Q (F0 m pc' lsr' (st'.map (vm_v (vm_r base b adS)))))
    (hL : vm_LV (vm_r base b adS) lsr r.2.2.2.1 ls) (hT : vm_T D κ base b adS L xs s.heap w H locs) :
    W p l e R s m args below meth c H locs (w.1 - n0) (w.2.1 - k0) Q (F0 m pc lsr (st.map (vm_v (vm_r base b adS)))) := by
  have CC := C
  obtain ⟨hx, hb, hml, hown, hts, hK, hAO, hN, hnm, hret, hlk, hX, hbb, hSI⟩ := C
  have hw1 : w.1 ≤ 1000 := hT.1.2.1
  unfold vm_chk at hch
  rw [Bool.and_eq_true] at hch
  replace hch := hch.2
  cases (show len = 3 from hlen)
  obtain ⟨x, st0, tgt, rfl, e1, e2, rfl, rfl, rfl⟩ := vm_if0_i (show vm_if0 cd pc off ls st w = some (pc', ls', st', w') from hs)
  refine vm_cmp0_W hx hb hdg e1 ⟨fun h => ?_, fun h => ?_⟩
  · rcases e2 with ⟨-, rfl⟩ | ⟨g, -⟩
    · exact kk _ _ _ hL hT
    · exact absurd h g
  · rcases e2 with ⟨g, -⟩ | ⟨-, rfl⟩
    · exact absurd g h
    · exact kk _ _ _ hL hT
set_option maxHeartbeats 1000000 in
theorem vm_s_if_icmp (cd : Jvm.ClassFile.Cond) (off : Int) {pc len a bb cn o : Nat} (C : vm_C D κ base b adS adV L xs p s m args meth c r) (ho : vm_nm[o]? = some r.1) (hcl : r.2.1.cls = r.1) (hdg : decode r.2.2.1 pc = .ok ((.if_icmp cd off), len)) (hlen : len = vm_len (.if_icmp cd off) len)
    (hch : vm_chk o (pc, (.if_icmp cd off), len, a, bb, cn) = true) (hd : d ≤ R.frames ∧ 40 * d + 20 ≤ R.locals)
    (hs : vm_step d r (pc, (.if_icmp cd off), len, a, bb, cn) ls st w = some (pc', ls', st', w')) (hn : n0 ≤ w.1 ∧ k0 ≤ w.2.1) (hc : w'.1 ≤ n0 + R.cells ∧ w'.2.1 ≤ k0 + R.slots)
    (kk : ∀ lsr' H' locs', vm_LV (vm_r base b adS) lsr' r.2.2.2.1 ls' → vm_T D κ base b adS L xs s.heap w' H' locs' → W p l e R s m args below meth c H' locs' (w'.1 - n0) (w'.2.1 - k0) Q (F0 m pc' lsr' (st'.map (vm_v (vm_r base b adS)))))
    (hL : vm_LV (vm_r base b adS) lsr r.2.2.2.1 ls) (hT : vm_T D κ base b adS L xs s.heap w H locs) :
    W p l e R s m args below meth c H locs (w.1 - n0) (w.2.1 - k0) Q (F0 m pc lsr (st.map (vm_v (vm_r base b adS)))) := by
  have CC := C
  obtain ⟨hx, hb, hml, hown, hts, hK, hAO, hN, hnm, hret, hlk, hX, hbb, hSI⟩ := C
  have hw1 : w.1 ≤ 1000 := hT.1.2.1
  unfold vm_chk at hch
  rw [Bool.and_eq_true] at hch
  replace hch := hch.2
  cases (show len = 3 from hlen)
  obtain ⟨x, y, st0, tgt, rfl, e1, e2, rfl, rfl, rfl⟩ := vm_if2_i (show vm_if2 cd pc off ls st w = some (pc', ls', st', w') from hs)
  refine vm_cmp2_W hx hb hdg e1 ⟨fun h => ?_, fun h => ?_⟩
  · rcases e2 with ⟨-, rfl⟩ | ⟨g, -⟩
    · exact kk _ _ _ hL hT
    · exact absurd h g
  · rcases e2 with ⟨g, -⟩ | ⟨-, rfl⟩
    · exact absurd g h
    · exact kk _ _ _ hL hT
set_option maxHeartbeats 1000000 in
theorem vm_s_ifnull (off : Int) {pc len a bb cn o : Nat} (C : vm_C D κ base b adS adV L xs p s m args meth c r) (ho : vm_nm[o]? = some r.1) (hcl : r.2.1.cls = r.1) (hdg : decode r.2.2.1 pc = .ok ((.ifnull off), len)) (hlen : len = vm_len (.ifnull off) len)
    (hch : vm_chk o (pc, (.ifnull off), len, a, bb, cn) = true) (hd : d ≤ R.frames ∧ 40 * d + 20 ≤ R.locals)
    (hs : vm_step d r (pc, (.ifnull off), len, a, bb, cn) ls st w = some (pc', ls', st', w')) (hn : n0 ≤ w.1 ∧ k0 ≤ w.2.1) (hc : w'.1 ≤ n0 + R.cells ∧ w'.2.1 ≤ k0 + R.slots)
    (kk : ∀ lsr' H' locs', vm_LV (vm_r base b adS) lsr' r.2.2.2.1 ls' → vm_T D κ base b adS L xs s.heap w' H' locs' → W p l e R s m args below meth c H' locs' (w'.1 - n0) (w'.2.1 - k0) Q (F0 m pc' lsr' (st'.map (vm_v (vm_r base b adS)))))
    (hL : vm_LV (vm_r base b adS) lsr r.2.2.2.1 ls) (hT : vm_T D κ base b adS L xs s.heap w H locs) :
    W p l e R s m args below meth c H locs (w.1 - n0) (w.2.1 - k0) Q (F0 m pc lsr (st.map (vm_v (vm_r base b adS)))) := by
  have CC := C
  obtain ⟨hx, hb, hml, hown, hts, hK, hAO, hN, hnm, hret, hlk, hX, hbb, hSI⟩ := C
  have hw1 : w.1 ≤ 1000 := hT.1.2.1
  unfold vm_chk at hch
  rw [Bool.and_eq_true] at hch
  replace hch := hch.2
  cases (show len = 3 from hlen)
  obtain ⟨v, st0, tgt, rfl, e1, e2, rfl, rfl, rfl⟩ := vm_ifn_i (show vm_ifn false pc off ls st w = some (pc', ls', st', w') from hs)
  rcases e2 with ⟨⟨x, rfl⟩, e2⟩ | ⟨rfl, e2⟩
  · rw [if_neg (by decide)] at e2
    subst e2
    exact lv_ifnull hx hb hdg (kk _ _ _ hL hT)
  · rw [if_neg (by decide)] at e2
    subst e2
    exact lv_ifnullN hx hb hdg e1 (kk _ _ _ hL hT)
set_option maxHeartbeats 1000000 in
theorem vm_s_ifnonnull (off : Int) {pc len a bb cn o : Nat} (C : vm_C D κ base b adS adV L xs p s m args meth c r) (ho : vm_nm[o]? = some r.1) (hcl : r.2.1.cls = r.1) (hdg : decode r.2.2.1 pc = .ok ((.ifnonnull off), len)) (hlen : len = vm_len (.ifnonnull off) len)
    (hch : vm_chk o (pc, (.ifnonnull off), len, a, bb, cn) = true) (hd : d ≤ R.frames ∧ 40 * d + 20 ≤ R.locals)
    (hs : vm_step d r (pc, (.ifnonnull off), len, a, bb, cn) ls st w = some (pc', ls', st', w')) (hn : n0 ≤ w.1 ∧ k0 ≤ w.2.1) (hc : w'.1 ≤ n0 + R.cells ∧ w'.2.1 ≤ k0 + R.slots)
    (kk : ∀ lsr' H' locs', vm_LV (vm_r base b adS) lsr' r.2.2.2.1 ls' → vm_T D κ base b adS L xs s.heap w' H' locs' → W p l e R s m args below meth c H' locs' (w'.1 - n0) (w'.2.1 - k0) Q (F0 m pc' lsr' (st'.map (vm_v (vm_r base b adS)))))
    (hL : vm_LV (vm_r base b adS) lsr r.2.2.2.1 ls) (hT : vm_T D κ base b adS L xs s.heap w H locs) :
    W p l e R s m args below meth c H locs (w.1 - n0) (w.2.1 - k0) Q (F0 m pc lsr (st.map (vm_v (vm_r base b adS)))) := by
  have CC := C
  obtain ⟨hx, hb, hml, hown, hts, hK, hAO, hN, hnm, hret, hlk, hX, hbb, hSI⟩ := C
  have hw1 : w.1 ≤ 1000 := hT.1.2.1
  unfold vm_chk at hch
  rw [Bool.and_eq_true] at hch
  replace hch := hch.2
  cases (show len = 3 from hlen)
  obtain ⟨v, st0, tgt, rfl, e1, e2, rfl, rfl, rfl⟩ := vm_ifn_i (show vm_ifn true pc off ls st w = some (pc', ls', st', w') from hs)
  rcases e2 with ⟨⟨x, rfl⟩, e2⟩ | ⟨rfl, e2⟩
  · rw [if_pos rfl] at e2
    subst e2
    exact lv_ifnonnull hx hb hdg e1 (kk _ _ _ hL hT)
  · rw [if_pos rfl] at e2
    subst e2
    exact lv_ifnonnullN hx hb hdg (kk _ _ _ hL hT)
set_option maxHeartbeats 1000000 in
theorem vm_s_tableswitch (dd lo hi : Int) (os : Array Int) {pc len a bb cn o : Nat} (C : vm_C D κ base b adS adV L xs p s m args meth c r) (ho : vm_nm[o]? = some r.1) (hcl : r.2.1.cls = r.1) (hdg : decode r.2.2.1 pc = .ok ((.tableswitch dd lo hi os), len)) (hlen : len = vm_len (.tableswitch dd lo hi os) len)
    (hch : vm_chk o (pc, (.tableswitch dd lo hi os), len, a, bb, cn) = true) (hd : d ≤ R.frames ∧ 40 * d + 20 ≤ R.locals)
    (hs : vm_step d r (pc, (.tableswitch dd lo hi os), len, a, bb, cn) ls st w = some (pc', ls', st', w')) (hn : n0 ≤ w.1 ∧ k0 ≤ w.2.1) (hc : w'.1 ≤ n0 + R.cells ∧ w'.2.1 ≤ k0 + R.slots)
    (kk : ∀ lsr' H' locs', vm_LV (vm_r base b adS) lsr' r.2.2.2.1 ls' → vm_T D κ base b adS L xs s.heap w' H' locs' → W p l e R s m args below meth c H' locs' (w'.1 - n0) (w'.2.1 - k0) Q (F0 m pc' lsr' (st'.map (vm_v (vm_r base b adS)))))
    (hL : vm_LV (vm_r base b adS) lsr r.2.2.2.1 ls) (hT : vm_T D κ base b adS L xs s.heap w H locs) :
    W p l e R s m args below meth c H locs (w.1 - n0) (w.2.1 - k0) Q (F0 m pc lsr (st.map (vm_v (vm_r base b adS)))) := by
  have CC := C
  obtain ⟨hx, hb, hml, hown, hts, hK, hAO, hN, hnm, hret, hlk, hX, hbb, hSI⟩ := C
  have hw1 : w.1 ≤ 1000 := hT.1.2.1
  unfold vm_chk at hch
  rw [Bool.and_eq_true] at hch
  replace hch := hch.2
  obtain ⟨x, st0, rfl, e1, rfl, rfl, rfl⟩ := vm_tab_i (show vm_tab pc dd lo hi os ls st w = some (pc', ls', st', w') from hs)
  rcases e1 with ⟨h1, h2⟩ | ⟨h1, off, h2, h3⟩
  · exact lv_tableOut hx hb hdg h1 h2 (kk _ _ _ hL hT)
  · exact lv_tableIn hx hb hdg (fun h => h1 (Or.inl h)) (fun h => h1 (Or.inr h)) h2 h3 (kk _ _ _ hL hT)
set_option maxHeartbeats 1000000 in
theorem vm_s_lookupswitch (dd : Int) (ps : Array (Int × Int)) {pc len a bb cn o : Nat} (C : vm_C D κ base b adS adV L xs p s m args meth c r) (ho : vm_nm[o]? = some r.1) (hcl : r.2.1.cls = r.1) (hdg : decode r.2.2.1 pc = .ok ((.lookupswitch dd ps), len)) (hlen : len = vm_len (.lookupswitch dd ps) len)
    (hch : vm_chk o (pc, (.lookupswitch dd ps), len, a, bb, cn) = true) (hd : d ≤ R.frames ∧ 40 * d + 20 ≤ R.locals)
    (hs : vm_step d r (pc, (.lookupswitch dd ps), len, a, bb, cn) ls st w = some (pc', ls', st', w')) (hn : n0 ≤ w.1 ∧ k0 ≤ w.2.1) (hc : w'.1 ≤ n0 + R.cells ∧ w'.2.1 ≤ k0 + R.slots)
    (kk : ∀ lsr' H' locs', vm_LV (vm_r base b adS) lsr' r.2.2.2.1 ls' → vm_T D κ base b adS L xs s.heap w' H' locs' → W p l e R s m args below meth c H' locs' (w'.1 - n0) (w'.2.1 - k0) Q (F0 m pc' lsr' (st'.map (vm_v (vm_r base b adS)))))
    (hL : vm_LV (vm_r base b adS) lsr r.2.2.2.1 ls) (hT : vm_T D κ base b adS L xs s.heap w H locs) :
    W p l e R s m args below meth c H locs (w.1 - n0) (w.2.1 - k0) Q (F0 m pc lsr (st.map (vm_v (vm_r base b adS)))) := by
  have CC := C
  obtain ⟨hx, hb, hml, hown, hts, hK, hAO, hN, hnm, hret, hlk, hX, hbb, hSI⟩ := C
  have hw1 : w.1 ≤ 1000 := hT.1.2.1
  unfold vm_chk at hch
  rw [Bool.and_eq_true] at hch
  replace hch := hch.2
  obtain ⟨x, st0, rfl, e1, e2, rfl, rfl, rfl⟩ := vm_lku_i (show vm_lku pc dd ps ls st w = some (pc', ls', st', w') from hs)
  exact lv_lookup hx hb hdg e1 rfl e2 (kk _ _ _ hL hT)
set_option maxHeartbeats 1000000 in
theorem vm_s_getfield (x : Nat) {pc len a bb cn o : Nat} (C : vm_C D κ base b adS adV L xs p s m args meth c r) (ho : vm_nm[o]? = some r.1) (hcl : r.2.1.cls = r.1) (hdg : decode r.2.2.1 pc = .ok ((.getfield x), len)) (hlen : len = vm_len (.getfield x) len)
    (hch : vm_chk o (pc, (.getfield x), len, a, bb, cn) = true) (hd : d ≤ R.frames ∧ 40 * d + 20 ≤ R.locals)
    (hs : vm_step d r (pc, (.getfield x), len, a, bb, cn) ls st w = some (pc', ls', st', w')) (hn : n0 ≤ w.1 ∧ k0 ≤ w.2.1) (hc : w'.1 ≤ n0 + R.cells ∧ w'.2.1 ≤ k0 + R.slots)
    (kk : ∀ lsr' H' locs', vm_LV (vm_r base b adS) lsr' r.2.2.2.1 ls' → vm_T D κ base b adS L xs s.heap w' H' locs' → W p l e R s m args below meth c H' locs' (w'.1 - n0) (w'.2.1 - k0) Q (F0 m pc' lsr' (st'.map (vm_v (vm_r base b adS)))))
    (hL : vm_LV (vm_r base b adS) lsr r.2.2.2.1 ls) (hT : vm_T D κ base b adS L xs s.heap w H locs) :
    W p l e R s m args below meth c H locs (w.1 - n0) (w.2.1 - k0) Q (F0 m pc lsr (st.map (vm_v (vm_r base b adS)))) := by
  have CC := C
  obtain ⟨hx, hb, hml, hown, hts, hK, hAO, hN, hnm, hret, hlk, hX, hbb, hSI⟩ := C
  have hw1 : w.1 ≤ 1000 := hT.1.2.1
  unfold vm_chk at hch
  rw [Bool.and_eq_true] at hch
  replace hch := hch.2
  cases (show len = 3 from hlen)
  obtain ⟨i, st0, fs, v, rfl, e1, e2, e3, rfl, rfl, rfl, rfl⟩ := vm_get_i (show vm_get a bb pc ls st w = some (pc', ls', st', w') from hs)
  obtain ⟨own, Cn, T, N, g1, g2, g3, g4⟩ := vm_fT_ok _ (of_decide_eq_true (show decide ((o, x, a, bb) ∈ vm_fT) = true from hch))
  cases ho.symm.trans g1
  have ha : a < 11 := (List.getElem?_eq_some_iff.mp g2).1
  obtain ⟨C', T', N', z1, hin, hty, hnms⟩ := vm_clsA a ha
  cases g2.symm.trans z1
  show W p l e R s m args below meth c H locs (w.1 - n0) (w.2.1 - k0) Q (F0 m pc lsr (.ref (vm_r base b adS i) :: st0.map _))
  rw [vm_r_lt (i := i) (Nat.lt_of_lt_of_le e1 hw1)]
  exact va_get hx hb hts hin hown hK (vm_va_at hT.1 e1 e2) 0 rfl g2 bb g3 (hts _ g4) (fun _ h9 => h9) (vm_get_map _ e3) hdg (kk _ _ _ hL hT)
set_option maxHeartbeats 1000000 in
theorem vm_s_putfield (x : Nat) {pc len a bb cn o : Nat} (C : vm_C D κ base b adS adV L xs p s m args meth c r) (ho : vm_nm[o]? = some r.1) (hcl : r.2.1.cls = r.1) (hdg : decode r.2.2.1 pc = .ok ((.putfield x), len)) (hlen : len = vm_len (.putfield x) len)
    (hch : vm_chk o (pc, (.putfield x), len, a, bb, cn) = true) (hd : d ≤ R.frames ∧ 40 * d + 20 ≤ R.locals)
    (hs : vm_step d r (pc, (.putfield x), len, a, bb, cn) ls st w = some (pc', ls', st', w')) (hn : n0 ≤ w.1 ∧ k0 ≤ w.2.1) (hc : w'.1 ≤ n0 + R.cells ∧ w'.2.1 ≤ k0 + R.slots)
    (kk : ∀ lsr' H' locs', vm_LV (vm_r base b adS) lsr' r.2.2.2.1 ls' → vm_T D κ base b adS L xs s.heap w' H' locs' → W p l e R s m args below meth c H' locs' (w'.1 - n0) (w'.2.1 - k0) Q (F0 m pc' lsr' (st'.map (vm_v (vm_r base b adS)))))
    (hL : vm_LV (vm_r base b adS) lsr r.2.2.2.1 ls) (hT : vm_T D κ base b adS L xs s.heap w H locs) :
    W p l e R s m args below meth c H locs (w.1 - n0) (w.2.1 - k0) Q (F0 m pc lsr (st.map (vm_v (vm_r base b adS)))) := by
  have CC := C
  obtain ⟨hx, hb, hml, hown, hts, hK, hAO, hN, hnm, hret, hlk, hX, hbb, hSI⟩ := C
  have hw1 : w.1 ≤ 1000 := hT.1.2.1
  unfold vm_chk at hch
  rw [Bool.and_eq_true] at hch
  replace hch := hch.2
  cases (show len = 3 from hlen)
  obtain ⟨i, st0, fs, v, rfl, e1, e2, e3, e4, e5, rfl, rfl, rfl, rfl⟩ := vm_put_i (show vm_put r a bb pc ls st w = some (pc', ls', st', w') from hs)
  have hf := vm_fT_ok _ (of_decide_eq_true (show decide ((o, x, a, bb) ∈ vm_fT) = true from hch))
  show W p l e R s m args below meth c H locs (w.1 - n0) (w.2.1 - k0) Q (F0 m pc lsr (vm_v _ v :: .ref (vm_r base b adS i) :: st0.map _))
  rw [vm_r_lt (i := i) (Nat.lt_of_lt_of_le e1 hw1)]
  exact vm_put_W CC ho hcl hf e1 e2 e3 e4 e5 hdg hT (fun H' locs' hT' => kk _ _ _ hL hT')
set_option maxHeartbeats 1000000 in
theorem vm_s_iaload  {pc len a bb cn o : Nat} (C : vm_C D κ base b adS adV L xs p s m args meth c r) (ho : vm_nm[o]? = some r.1) (hcl : r.2.1.cls = r.1) (hdg : decode r.2.2.1 pc = .ok (.iaload, len)) (hlen : len = vm_len .iaload len)
    (hch : vm_chk o (pc, .iaload, len, a, bb, cn) = true) (hd : d ≤ R.frames ∧ 40 * d + 20 ≤ R.locals)
    (hs : vm_step d r (pc, .iaload, len, a, bb, cn) ls st w = some (pc', ls', st', w')) (hn : n0 ≤ w.1 ∧ k0 ≤ w.2.1) (hc : w'.1 ≤ n0 + R.cells ∧ w'.2.1 ≤ k0 + R.slots)
    (kk : ∀ lsr' H' locs', vm_LV (vm_r base b adS) lsr' r.2.2.2.1 ls' → vm_T D κ base b adS L xs s.heap w' H' locs' → W p l e R s m args below meth c H' locs' (w'.1 - n0) (w'.2.1 - k0) Q (F0 m pc' lsr' (st'.map (vm_v (vm_r base b adS)))))
    (hL : vm_LV (vm_r base b adS) lsr r.2.2.2.1 ls) (hT : vm_T D κ base b adS L xs s.heap w H locs) :
    W p l e R s m args below meth c H locs (w.1 - n0) (w.2.1 - k0) Q (F0 m pc lsr (st.map (vm_v (vm_r base b adS)))) := by
  have CC := C
  obtain ⟨hx, hb, hml, hown, hts, hK, hAO, hN, hnm, hret, hlk, hX, hbb, hSI⟩ := C
  have hw1 : w.1 ≤ 1000 := hT.1.2.1
  unfold vm_chk at hch
  rw [Bool.and_eq_true] at hch
  replace hch := hch.2
  cases (show len = 1 from hlen)
  obtain ⟨i, j, st0, n, f, rfl, e1, e2, e3, rfl, rfl, rfl, rfl⟩ := vm_ald_i (show vm_ald pc ls st w = some (pc', ls', st', w') from hs)
  by_cases hi : i = vm_scr
  · subst hi
    have e4 := hT.1.2.2.1
    rw [e2] at e4
    cases e4
    exact va_sld (A := fun q => base ≤ q) hx hb hX (by have := hT.2.1.1; omega) (by show ¬ base ≤ b; omega) ⟨hT.2.1.2, fun q _ hq => hT.2.2.1 q (Nat.lt_of_not_le hq), hT.2.2.2⟩ e3 hdg (kk _ _ _ hL hT)
  · have e1 : i < w.1 := e1.elim id (fun h => absurd h hi)
    show W p l e R s m args below meth c H locs (w.1 - n0) (w.2.1 - k0) Q (F0 m pc lsr (.int j :: .ref (vm_r base b adS i) :: st0.map _))
    rw [vm_r_lt (i := i) (Nat.lt_of_lt_of_le e1 hw1)]
    exact va_iald hx hb hK (vm_va_at hT.1 e1 e2) 0 0 rfl rfl e3 hdg (kk _ _ _ hL hT)
set_option maxHeartbeats 1000000 in
theorem vm_s_iastore  {pc len a bb cn o : Nat} (C : vm_C D κ base b adS adV L xs p s m args meth c r) (ho : vm_nm[o]? = some r.1) (hcl : r.2.1.cls = r.1) (hdg : decode r.2.2.1 pc = .ok (.iastore, len)) (hlen : len = vm_len .iastore len)
    (hch : vm_chk o (pc, .iastore, len, a, bb, cn) = true) (hd : d ≤ R.frames ∧ 40 * d + 20 ≤ R.locals)
    (hs : vm_step d r (pc, .iastore, len, a, bb, cn) ls st w = some (pc', ls', st', w')) (hn : n0 ≤ w.1 ∧ k0 ≤ w.2.1) (hc : w'.1 ≤ n0 + R.cells ∧ w'.2.1 ≤ k0 + R.slots)
    (kk : ∀ lsr' H' locs', vm_LV (vm_r base b adS) lsr' r.2.2.2.1 ls' → vm_T D κ base b adS L xs s.heap w' H' locs' → W p l e R s m args below meth c H' locs' (w'.1 - n0) (w'.2.1 - k0) Q (F0 m pc' lsr' (st'.map (vm_v (vm_r base b adS)))))
    (hL : vm_LV (vm_r base b adS) lsr r.2.2.2.1 ls) (hT : vm_T D κ base b adS L xs s.heap w H locs) :
    W p l e R s m args below meth c H locs (w.1 - n0) (w.2.1 - k0) Q (F0 m pc lsr (st.map (vm_v (vm_r base b adS)))) := by
  have CC := C
  obtain ⟨hx, hb, hml, hown, hts, hK, hAO, hN, hnm, hret, hlk, hX, hbb, hSI⟩ := C
  have hw1 : w.1 ≤ 1000 := hT.1.2.1
  unfold vm_chk at hch
  rw [Bool.and_eq_true] at hch
  replace hch := hch.2
  cases (show len = 1 from hlen)
  obtain ⟨i, j, x, st0, n, f, rfl, e1, e2, e3, rfl, rfl, rfl, rfl⟩ := vm_ast_i (show vm_ast pc ls st w = some (pc', ls', st', w') from hs)
  show W p l e R s m args below meth c H locs (w.1 - n0) (w.2.1 - k0) Q (F0 m pc lsr (.int x :: .int j :: .ref (vm_r base b adS i) :: st0.map _))
  rw [vm_r_lt (i := i) (Nat.lt_of_lt_of_le e1 hw1)]
  exact vm_ast_W CC e1 e2 e3 hdg hT (fun H' locs' hT' => kk _ _ _ hL hT')
set_option maxHeartbeats 1000000 in
theorem vm_s_aaload  {pc len a bb cn o : Nat} (C : vm_C D κ base b adS adV L xs p s m args meth c r) (ho : vm_nm[o]? = some r.1) (hcl : r.2.1.cls = r.1) (hdg : decode r.2.2.1 pc = .ok (.aaload, len)) (hlen : len = vm_len .aaload len)
    (hch : vm_chk o (pc, .aaload, len, a, bb, cn) = true) (hd : d ≤ R.frames ∧ 40 * d + 20 ≤ R.locals)
    (hs : vm_step d r (pc, .aaload, len, a, bb, cn) ls st w = some (pc', ls', st', w')) (hn : n0 ≤ w.1 ∧ k0 ≤ w.2.1) (hc : w'.1 ≤ n0 + R.cells ∧ w'.2.1 ≤ k0 + R.slots)
    (kk : ∀ lsr' H' locs', vm_LV (vm_r base b adS) lsr' r.2.2.2.1 ls' → vm_T D κ base b adS L xs s.heap w' H' locs' → W p l e R s m args below meth c H' locs' (w'.1 - n0) (w'.2.1 - k0) Q (F0 m pc' lsr' (st'.map (vm_v (vm_r base b adS)))))
    (hL : vm_LV (vm_r base b adS) lsr r.2.2.2.1 ls) (hT : vm_T D κ base b adS L xs s.heap w H locs) :
    W p l e R s m args below meth c H locs (w.1 - n0) (w.2.1 - k0) Q (F0 m pc lsr (st.map (vm_v (vm_r base b adS)))) := by
  have CC := C
  obtain ⟨hx, hb, hml, hown, hts, hK, hAO, hN, hnm, hret, hlk, hX, hbb, hSI⟩ := C
  have hw1 : w.1 ≤ 1000 := hT.1.2.1
  unfold vm_chk at hch
  rw [Bool.and_eq_true] at hch
  replace hch := hch.2
  cases (show len = 1 from hlen)
  obtain ⟨i, j, st0, n, g, k, rfl, e1, e2, e3, e4, rfl, rfl, rfl, rfl⟩ := vm_qld_i (show vm_qld pc ls st w = some (pc', ls', st', w') from hs)
  show W p l e R s m args below meth c H locs (w.1 - n0) (w.2.1 - k0) Q (F0 m pc lsr (.int j :: .ref (vm_r base b adS i) :: st0.map _))
  rw [vm_r_lt (i := i) (Nat.lt_of_lt_of_le e1 hw1)]
  refine va_aldq (C := RX0) hx hb hK (vm_va_at hT.1 e1 e2) 0 1 rfl rfl e3 hdg ?_
  show W p l e R s m args below meth c H locs (w.1 - n0) (w.2.1 - k0) Q (F0 m (pc + 1) lsr (va_rf ((g j.toNatClampNeg).map (vm_r base b adS)) :: st0.map _))
  rw [e4]
  exact kk _ _ _ hL hT
set_option maxHeartbeats 1000000 in
theorem vm_s_aastore  {pc len a bb cn o : Nat} (C : vm_C D κ base b adS adV L xs p s m args meth c r) (ho : vm_nm[o]? = some r.1) (hcl : r.2.1.cls = r.1) (hdg : decode r.2.2.1 pc = .ok (.aastore, len)) (hlen : len = vm_len .aastore len)
    (hch : vm_chk o (pc, .aastore, len, a, bb, cn) = true) (hd : d ≤ R.frames ∧ 40 * d + 20 ≤ R.locals)
    (hs : vm_step d r (pc, .aastore, len, a, bb, cn) ls st w = some (pc', ls', st', w')) (hn : n0 ≤ w.1 ∧ k0 ≤ w.2.1) (hc : w'.1 ≤ n0 + R.cells ∧ w'.2.1 ≤ k0 + R.slots)
    (kk : ∀ lsr' H' locs', vm_LV (vm_r base b adS) lsr' r.2.2.2.1 ls' → vm_T D κ base b adS L xs s.heap w' H' locs' → W p l e R s m args below meth c H' locs' (w'.1 - n0) (w'.2.1 - k0) Q (F0 m pc' lsr' (st'.map (vm_v (vm_r base b adS)))))
    (hL : vm_LV (vm_r base b adS) lsr r.2.2.2.1 ls) (hT : vm_T D κ base b adS L xs s.heap w H locs) :
    W p l e R s m args below meth c H locs (w.1 - n0) (w.2.1 - k0) Q (F0 m pc lsr (st.map (vm_v (vm_r base b adS)))) := by
  have CC := C
  obtain ⟨hx, hb, hml, hown, hts, hK, hAO, hN, hnm, hret, hlk, hX, hbb, hSI⟩ := C
  have hw1 : w.1 ≤ 1000 := hT.1.2.1
  unfold vm_chk at hch
  rw [Bool.and_eq_true] at hch
  replace hch := hch.2
  cases (show len = 1 from hlen)
  obtain ⟨i, j, v, st0, n, g, fs, rfl, e1, e2, e3, e4, e5, rfl, rfl, rfl, rfl⟩ := vm_qst_i (show vm_qst pc ls st w = some (pc', ls', st', w') from hs)
  show W p l e R s m args below meth c H locs (w.1 - n0) (w.2.1 - k0) Q (F0 m pc lsr (.ref (vm_r base b adS v) :: .int j :: .ref (vm_r base b adS i) :: st0.map _))
  rw [vm_r_lt (i := v) (Nat.lt_of_lt_of_le e2 hw1), vm_r_lt (i := i) (Nat.lt_of_lt_of_le e1 hw1)]
  exact vm_qst_W CC e1 e2 e3 e4 e5 hdg hT (fun H' locs' hT' => kk _ _ _ hL hT')
set_option maxHeartbeats 1000000 in
theorem vm_s_arraylength  {pc len a bb cn o : Nat} (C : vm_C D κ base b adS adV L xs p s m args meth c r) (ho : vm_nm[o]? = some r.1) (hcl : r.2.1.cls = r.1) (hdg : decode r.2.2.1 pc = .ok (.arraylength, len)) (hlen : len = vm_len .arraylength len)
    (hch : vm_chk o (pc, .arraylength, len, a, bb, cn) = true) (hd : d ≤ R.frames ∧ 40 * d + 20 ≤ R.locals)
    (hs : vm_step d r (pc, .arraylength, len, a, bb, cn) ls st w = some (pc', ls', st', w')) (hn : n0 ≤ w.1 ∧ k0 ≤ w.2.1) (hc : w'.1 ≤ n0 + R.cells ∧ w'.2.1 ≤ k0 + R.slots)
    (kk : ∀ lsr' H' locs', vm_LV (vm_r base b adS) lsr' r.2.2.2.1 ls' → vm_T D κ base b adS L xs s.heap w' H' locs' → W p l e R s m args below meth c H' locs' (w'.1 - n0) (w'.2.1 - k0) Q (F0 m pc' lsr' (st'.map (vm_v (vm_r base b adS)))))
    (hL : vm_LV (vm_r base b adS) lsr r.2.2.2.1 ls) (hT : vm_T D κ base b adS L xs s.heap w H locs) :
    W p l e R s m args below meth c H locs (w.1 - n0) (w.2.1 - k0) Q (F0 m pc lsr (st.map (vm_v (vm_r base b adS)))) := by
  have CC := C
  obtain ⟨hx, hb, hml, hown, hts, hK, hAO, hN, hnm, hret, hlk, hX, hbb, hSI⟩ := C
  have hw1 : w.1 ≤ 1000 := hT.1.2.1
  unfold vm_chk at hch
  rw [Bool.and_eq_true] at hch
  replace hch := hch.2
  cases (show len = 1 from hlen)
  obtain ⟨i, n, st0, rfl, e1, rfl, rfl, rfl, rfl⟩ := vm_alen_i (show vm_alen pc ls st w = some (pc', ls', st', w') from hs)
  rcases e1 with ⟨f, e2, e1⟩ | ⟨g, e2, e1⟩
  · by_cases hi : i = vm_scr
    · subst hi
      have e4 := hT.1.2.2.1
      rw [e2] at e4
      cases e4
      exact va_slen (A := fun q => base ≤ q) (H0 := s.heap) (b := b) hx hb hX (by have := hT.2.1.1; omega) (by show ¬ base ≤ b; omega) ⟨hT.2.1.2, fun q _ hq => hT.2.2.1 q (Nat.lt_of_not_le hq), hT.2.2.2⟩ hdg (kk _ _ _ hL hT)
    · have e1 : i < w.1 := e1.elim id (fun h => absurd h hi)
      show W p l e R s m args below meth c H locs (w.1 - n0) (w.2.1 - k0) Q (F0 m pc lsr (.ref (vm_r base b adS i) :: st0.map _))
      rw [vm_r_lt (i := i) (Nat.lt_of_lt_of_le e1 hw1)]
      exact va_alen hx hb hK (vm_va_at hT.1 e1 e2) 0 0 rfl rfl rfl hdg (kk _ _ _ hL hT)
  · show W p l e R s m args below meth c H locs (w.1 - n0) (w.2.1 - k0) Q (F0 m pc lsr (.ref (vm_r base b adS i) :: st0.map _))
    rw [vm_r_lt (i := i) (Nat.lt_of_lt_of_le e1 hw1)]
    exact va_alen hx hb hK (vm_va_at hT.1 e1 e2) 0 1 rfl rfl rfl hdg (kk _ _ _ hL hT)
set_option maxHeartbeats 1000000 in
theorem vm_s_newarray (t : ArrayType) {pc len a bb cn o : Nat} (C : vm_C D κ base b adS adV L xs p s m args meth c r) (ho : vm_nm[o]? = some r.1) (hcl : r.2.1.cls = r.1) (hdg : decode r.2.2.1 pc = .ok ((.newarray t), len)) (hlen : len = vm_len (.newarray t) len)
    (hch : vm_chk o (pc, (.newarray t), len, a, bb, cn) = true) (hd : d ≤ R.frames ∧ 40 * d + 20 ≤ R.locals)
    (hs : vm_step d r (pc, (.newarray t), len, a, bb, cn) ls st w = some (pc', ls', st', w')) (hn : n0 ≤ w.1 ∧ k0 ≤ w.2.1) (hc : w'.1 ≤ n0 + R.cells ∧ w'.2.1 ≤ k0 + R.slots)
    (kk : ∀ lsr' H' locs', vm_LV (vm_r base b adS) lsr' r.2.2.2.1 ls' → vm_T D κ base b adS L xs s.heap w' H' locs' → W p l e R s m args below meth c H' locs' (w'.1 - n0) (w'.2.1 - k0) Q (F0 m pc' lsr' (st'.map (vm_v (vm_r base b adS)))))
    (hL : vm_LV (vm_r base b adS) lsr r.2.2.2.1 ls) (hT : vm_T D κ base b adS L xs s.heap w H locs) :
    W p l e R s m args below meth c H locs (w.1 - n0) (w.2.1 - k0) Q (F0 m pc lsr (st.map (vm_v (vm_r base b adS)))) := by
  have CC := C
  obtain ⟨hx, hb, hml, hown, hts, hK, hAO, hN, hnm, hret, hlk, hX, hbb, hSI⟩ := C
  have hw1 : w.1 ≤ 1000 := hT.1.2.1
  unfold vm_chk at hch
  rw [Bool.and_eq_true] at hch
  replace hch := hch.2
  cases (show len = 2 from hlen)
  obtain ⟨n, st0, rfl, e1, e2, e3, rfl, rfl, rfl, rfl⟩ := vm_newi_i (show vm_newi pc ls st w = some (pc', ls', st', w') from hs)
  have hc : w.1 + 1 ≤ n0 + R.cells ∧ w.2.1 + n.toNatClampNeg ≤ k0 + R.slots := hc
  cases t
  case int =>
    refine vm_newi_W CC e1 e2 e3 hdg (by omega) (by omega) hT fun H' locs' hT' => ?_
    have K := kk _ _ _ hL hT'
    have a1 : w.1 + 1 - n0 = w.1 - n0 + 1 := by omega
    have a2 : w.2.1 + n.toNatClampNeg - k0 = w.2.1 - k0 + n.toNatClampNeg := by omega
    have a3 : vm_r base b adS w.1 = base + w.1 := vm_r_lt (by omega)
    have K : W p l e R s m args below meth c H' locs' (w.1 + 1 - n0) (w.2.1 + n.toNatClampNeg - k0) Q (F0 m (pc + 2) lsr (.ref (vm_r base b adS w.1) :: st0.map (vm_v (vm_r base b adS)))) := K
    rw [a1, a2, a3] at K
    exact K
  all_goals exact absurd (show false = true from hch) (fun h => by cases h)
set_option maxHeartbeats 1000000 in
theorem vm_s_anewarray (x : Nat) {pc len a bb cn o : Nat} (C : vm_C D κ base b adS adV L xs p s m args meth c r) (ho : vm_nm[o]? = some r.1) (hcl : r.2.1.cls = r.1) (hdg : decode r.2.2.1 pc = .ok ((.anewarray x), len)) (hlen : len = vm_len (.anewarray x) len)
    (hch : vm_chk o (pc, (.anewarray x), len, a, bb, cn) = true) (hd : d ≤ R.frames ∧ 40 * d + 20 ≤ R.locals)
    (hs : vm_step d r (pc, (.anewarray x), len, a, bb, cn) ls st w = some (pc', ls', st', w')) (hn : n0 ≤ w.1 ∧ k0 ≤ w.2.1) (hc : w'.1 ≤ n0 + R.cells ∧ w'.2.1 ≤ k0 + R.slots)
    (kk : ∀ lsr' H' locs', vm_LV (vm_r base b adS) lsr' r.2.2.2.1 ls' → vm_T D κ base b adS L xs s.heap w' H' locs' → W p l e R s m args below meth c H' locs' (w'.1 - n0) (w'.2.1 - k0) Q (F0 m pc' lsr' (st'.map (vm_v (vm_r base b adS)))))
    (hL : vm_LV (vm_r base b adS) lsr r.2.2.2.1 ls) (hT : vm_T D κ base b adS L xs s.heap w H locs) :
    W p l e R s m args below meth c H locs (w.1 - n0) (w.2.1 - k0) Q (F0 m pc lsr (st.map (vm_v (vm_r base b adS)))) := by
  have CC := C
  obtain ⟨hx, hb, hml, hown, hts, hK, hAO, hN, hnm, hret, hlk, hX, hbb, hSI⟩ := C
  have hw1 : w.1 ≤ 1000 := hT.1.2.1
  unfold vm_chk at hch
  rw [Bool.and_eq_true] at hch
  replace hch := hch.2
  cases (show len = 3 from hlen)
  obtain ⟨n, st0, rfl, e1, e2, e3, rfl, rfl, rfl, rfl⟩ := vm_newq_i (show vm_newq pc ls st w = some (pc', ls', st', w') from hs)
  have hc : w.1 + 1 ≤ n0 + R.cells ∧ w.2.1 + n.toNatClampNeg ≤ k0 + R.slots := hc
  have hch : (decide ((o, x, a) ∈ vm_nT) && (a == 0)) = true := hch
  rw [Bool.and_eq_true, beq_iff_eq] at hch
  obtain ⟨h1, rfl⟩ := hch
  refine vm_newq_W CC ho (vm_nT_ok _ (of_decide_eq_true h1)) e1 e2 e3 hdg (by omega) (by omega) hT fun H' locs' hT' => ?_
  have K := kk _ _ _ hL hT'
  have a1 : w.1 + 1 - n0 = w.1 - n0 + 1 := by omega
  have a2 : w.2.1 + n.toNatClampNeg - k0 = w.2.1 - k0 + n.toNatClampNeg := by omega
  have a3 : vm_r base b adS w.1 = base + w.1 := vm_r_lt (by omega)
  have K : W p l e R s m args below meth c H' locs' (w.1 + 1 - n0) (w.2.1 + n.toNatClampNeg - k0) Q (F0 m (pc + 3) lsr (.ref (vm_r base b adS w.1) :: st0.map (vm_v (vm_r base b adS)))) := K
  rw [a1, a2, a3] at K
  exact K
set_option maxHeartbeats 1000000 in
theorem vm_s_new (x : Nat) {pc len a bb cn o : Nat} (C : vm_C D κ base b adS adV L xs p s m args meth c r) (ho : vm_nm[o]? = some r.1) (hcl : r.2.1.cls = r.1) (hdg : decode r.2.2.1 pc = .ok ((.new x), len)) (hlen : len = vm_len (.new x) len)
    (hch : vm_chk o (pc, (.new x), len, a, bb, cn) = true) (hd : d ≤ R.frames ∧ 40 * d + 20 ≤ R.locals)
    (hs : vm_step d r (pc, (.new x), len, a, bb, cn) ls st w = some (pc', ls', st', w')) (hn : n0 ≤ w.1 ∧ k0 ≤ w.2.1) (hc : w'.1 ≤ n0 + R.cells ∧ w'.2.1 ≤ k0 + R.slots)
    (kk : ∀ lsr' H' locs', vm_LV (vm_r base b adS) lsr' r.2.2.2.1 ls' → vm_T D κ base b adS L xs s.heap w' H' locs' → W p l e R s m args below meth c H' locs' (w'.1 - n0) (w'.2.1 - k0) Q (F0 m pc' lsr' (st'.map (vm_v (vm_r base b adS)))))
    (hL : vm_LV (vm_r base b adS) lsr r.2.2.2.1 ls) (hT : vm_T D κ base b adS L xs s.heap w H locs) :
    W p l e R s m args below meth c H locs (w.1 - n0) (w.2.1 - k0) Q (F0 m pc lsr (st.map (vm_v (vm_r base b adS)))) := by
  have CC := C
  obtain ⟨hx, hb, hml, hown, hts, hK, hAO, hN, hnm, hret, hlk, hX, hbb, hSI⟩ := C
  have hw1 : w.1 ≤ 1000 := hT.1.2.1
  unfold vm_chk at hch
  rw [Bool.and_eq_true] at hch
  replace hch := hch.2
  cases (show len = 3 from hlen)
  obtain ⟨Cn, T, N, e1, e3, rfl, rfl, rfl, rfl⟩ := vm_new_i (show vm_new a pc ls st w = some (pc', ls', st', w') from hs)
  have hc : w.1 + 1 ≤ n0 + R.cells ∧ w.2.1 + N ≤ k0 + R.slots := hc
  refine vm_new_W CC ho (vm_nT_ok _ (of_decide_eq_true (show decide ((o, x, a) ∈ vm_nT) = true from hch))) e1 e3 hdg (by omega) (by omega) hT fun H' locs' hT' => ?_
  have K := kk _ _ _ hL hT'
  have a1 : w.1 + 1 - n0 = w.1 - n0 + 1 := by omega
  have a2 : w.2.1 + N - k0 = w.2.1 - k0 + N := by omega
  have a3 : vm_r base b adS w.1 = base + w.1 := vm_r_lt (by omega)
  have K : W p l e R s m args below meth c H' locs' (w.1 + 1 - n0) (w.2.1 + N - k0) Q (F0 m (pc + 3) lsr (.ref (vm_r base b adS w.1) :: st.map (vm_v (vm_r base b adS)))) := K
  rw [a1, a2, a3] at K
  exact K
set_option maxHeartbeats 1000000 in
theorem vm_s_invokespecial (x : Nat) {pc len a bb cn o : Nat} (C : vm_C D κ base b adS adV L xs p s m args meth c r) (ho : vm_nm[o]? = some r.1) (hcl : r.2.1.cls = r.1) (hdg : decode r.2.2.1 pc = .ok ((.invokespecial x), len)) (hlen : len = vm_len (.invokespecial x) len)
    (hch : vm_chk o (pc, (.invokespecial x), len, a, bb, cn) = true) (hd : d ≤ R.frames ∧ 40 * d + 20 ≤ R.locals)
    (hs : vm_step d r (pc, (.invokespecial x), len, a, bb, cn) ls st w = some (pc', ls', st', w')) (hn : n0 ≤ w.1 ∧ k0 ≤ w.2.1) (hc : w'.1 ≤ n0 + R.cells ∧ w'.2.1 ≤ k0 + R.slots)
    (kk : ∀ lsr' H' locs', vm_LV (vm_r base b adS) lsr' r.2.2.2.1 ls' → vm_T D κ base b adS L xs s.heap w' H' locs' → W p l e R s m args below meth c H' locs' (w'.1 - n0) (w'.2.1 - k0) Q (F0 m pc' lsr' (st'.map (vm_v (vm_r base b adS)))))
    (hL : vm_LV (vm_r base b adS) lsr r.2.2.2.1 ls) (hT : vm_T D κ base b adS L xs s.heap w H locs) :
    W p l e R s m args below meth c H locs (w.1 - n0) (w.2.1 - k0) Q (F0 m pc lsr (st.map (vm_v (vm_r base b adS)))) := by
  have CC := C
  obtain ⟨hx, hb, hml, hown, hts, hK, hAO, hN, hnm, hret, hlk, hX, hbb, hSI⟩ := C
  have hw1 : w.1 ≤ 1000 := hT.1.2.1
  unfold vm_chk at hch
  rw [Bool.and_eq_true] at hch
  replace hch := hch.2
  cases (show len = 3 from hlen)
  have hs : (if a = 5 then vm_oin d pc ls st w else none) = some (pc', ls', st', w') := hs
  by_cases ha : a = 5
  · rw [if_pos ha] at hs
    subst ha
    obtain ⟨i, st0, rfl, e1, e2, rfl, rfl, rfl, rfl⟩ := vm_oin_i hs
    have hch : (decide ((o, x, 5, bb, cn) ∈ vm_cT) && _) = true := hch
    rw [Bool.and_eq_true] at hch
    obtain ⟨own, r', g1, g2, g3, -⟩ := vm_cT_ok _ (of_decide_eq_true hch.1)
    cases ho.symm.trans g1
    have e2' : ((st0.map (vm_v (vm_r base b adS))).map fun v => v.category).sum ≤ 8 := by
      rw [List.map_map]
      have : ((fun v : Value => v.category) ∘ vm_v (vm_r base b adS)) = fun v => v.category := by funext v; exact vm_v_cat _ v
      rw [this]; exact e2
    refine W.objInit hx hb hown (hts _ (show Cond.methodLink r.1 x objectInit ∈ vm_G from g3)) (hts _ vm_oi1) (hts _ vm_oi2) rfl (by rw [hml]; exact hL.2.1) rfl hdg (by omega) (by show 2 * 0 + _ + 12 ≤ R.locals; omega) ?_
    exact kk _ _ _ hL hT
  · rw [if_neg ha] at hs; cases hs
set_option maxHeartbeats 1000000 in
theorem vm_s_invokevirtual (x : Nat) {pc len a bb cn o : Nat} (C : vm_C D κ base b adS adV L xs p s m args meth c r) (ho : vm_nm[o]? = some r.1) (hcl : r.2.1.cls = r.1) (hdg : decode r.2.2.1 pc = .ok ((.invokevirtual x), len)) (hlen : len = vm_len (.invokevirtual x) len)
    (hch : vm_chk o (pc, (.invokevirtual x), len, a, bb, cn) = true) (hd : d ≤ R.frames ∧ 40 * d + 20 ≤ R.locals)
    (hs : vm_step d r (pc, (.invokevirtual x), len, a, bb, cn) ls st w = some (pc', ls', st', w')) (hn : n0 ≤ w.1 ∧ k0 ≤ w.2.1) (hc : w'.1 ≤ n0 + R.cells ∧ w'.2.1 ≤ k0 + R.slots)
    (kk : ∀ lsr' H' locs', vm_LV (vm_r base b adS) lsr' r.2.2.2.1 ls' → vm_T D κ base b adS L xs s.heap w' H' locs' → W p l e R s m args below meth c H' locs' (w'.1 - n0) (w'.2.1 - k0) Q (F0 m pc' lsr' (st'.map (vm_v (vm_r base b adS)))))
    (hL : vm_LV (vm_r base b adS) lsr r.2.2.2.1 ls) (hT : vm_T D κ base b adS L xs s.heap w H locs) :
    W p l e R s m args below meth c H locs (w.1 - n0) (w.2.1 - k0) Q (F0 m pc lsr (st.map (vm_v (vm_r base b adS)))) := by
  have CC := C
  obtain ⟨hx, hb, hml, hown, hts, hK, hAO, hN, hnm, hret, hlk, hX, hbb, hSI⟩ := C
  have hw1 : w.1 ≤ 1000 := hT.1.2.1
  unfold vm_chk at hch
  rw [Bool.and_eq_true] at hch
  replace hch := hch.2
  cases (show len = 3 from hlen)
  have hs : (if a = 6 then vm_sln d pc ls st w else if a = 7 then vm_sch d pc ls st w else none) = some (pc', ls', st', w') := hs
  have hch : (decide ((o, x, a, bb, cn) ∈ vm_cT) && _) = true := hch
  rw [Bool.and_eq_true] at hch
  obtain ⟨own, r', g1, g2, g3, -⟩ := vm_cT_ok _ (of_decide_eq_true hch.1)
  cases ho.symm.trans g1
  have cat : ∀ st0 : List Value, (st0.map fun v => v.category).sum ≤ 8 → ((st0.map (vm_v (vm_r base b adS))).map fun v => v.category).sum ≤ 8 := by
    intro st0 h
    rw [List.map_map]
    have : ((fun v : Value => v.category) ∘ vm_v (vm_r base b adS)) = fun v => v.category := by funext v; exact vm_v_cat _ v
    rw [this]; exact h
  by_cases ha : a = 6
  · rw [if_pos ha] at hs
    subst ha
    obtain ⟨st0, rfl, e1, e2, rfl, rfl, rfl, rfl⟩ := vm_sln_i hs
    exact vm_str_W (As := []) (ws := vm_w_len) (y := yJ0_length_8abf5) (maxL := 1) (n := 0) (fun _ => trivial) CC ⟨e1, hd⟩ rfl vm_sl1 (by decide) (vm_c_length l base adS adV) g3 vm_sl2 vm_sl3 vm_sl4 ⟨by decide +kernel, by decide +kernel, by decide +kernel⟩ rfl (cat _ e2) hdg hL hT ⟨by omega, by omega⟩ (fun locs' hT' => kk _ _ _ hL hT')
  · rw [if_neg ha] at hs
    by_cases ha : a = 7
    · rw [if_pos ha] at hs
      subst ha
      obtain ⟨j, z, st0, rfl, e1, e2, e3, e4, rfl, rfl, rfl, rfl⟩ := vm_sch_i hs
      exact vm_str_W (As := [.int j]) (ws := vm_w_cha) (y := yJ0_charAt_5068e) (maxL := 2) (n := 1) (fun _ => trivial) CC ⟨e1, hd⟩ rfl vm_sc1 (by decide) (vm_c_charAt l base adS adV j z e3 e4) g3 vm_sc2 vm_sc3 vm_sc4 ⟨by decide +kernel, by decide +kernel, by decide +kernel⟩ rfl (cat _ e2) hdg hL hT ⟨by omega, by omega⟩ (fun locs' hT' => kk _ _ _ hL hT')
    · rw [if_neg ha] at hs; cases hs
end VMT
