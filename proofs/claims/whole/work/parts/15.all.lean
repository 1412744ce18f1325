/-! THE SOUNDNESS of the pure machine, by induction on the fuel -/
theorem vm_map_app {ρ : Nat → Nat} (v : Option Value) (rest : List Value) : (v.toList ++ rest).map (vm_v ρ) = (v.map (vm_v ρ)).toList ++ rest.map (vm_v ρ) := by cases v <;> rfl
theorem vm_cats {ρ : Nat → Nat} {st0 : List Value} (h : (st0.map fun v => v.category).sum ≤ 8) : ((st0.map (vm_v ρ)).map fun v => v.category).sum ≤ 8 := by
  rw [List.map_map]
  have : ((fun v : Value => v.category) ∘ vm_v ρ) = fun v => v.category := by funext v; exact vm_v_cat _ v
  rw [this]; exact h
theorem vm_Pc_of {p : Program} {s : State} {m : MethodId} {args : Array Value} {meth : Method} {c : Code} {H : Heap} {locs : List Loc} {D : va_G} {κ : Nat → ClassId} {base b adS adV L : Nat} {xs : Nat → Int32} {r : vm_M} {w : vm_W} {as : List Value}
    (C : vm_C D κ base b adS adV L xs p s m args meth c r) (hT : vm_T D κ base b adS L xs s.heap w H locs) (U : State) (hU : U.heap = H) (hW : s.WarmedH U.vm) : vm_Pc κ D base b adS adV L xs as w (as.map (vm_v (vm_r base b adS))).toArray U := by
  obtain ⟨hx, hb, hml, hown, hts, hK, hAO, hN, hnm, hret, hlk, hX, hbb, hSI⟩ := C
  obtain ⟨t1, t2, t3, t4⟩ := hT
  refine ⟨rfl, ⟨va_K.moved hW.alike hK, hAO.moved hW.alike, fun q hq => va_Nw.warmM hW (hN q hq), ?_, hbb, ?_, vm_SI_mv hSI hW t2.1 hU t3⟩, by rw [hU]; exact t1⟩
  · rw [hU]; exact (hX.moved hW.alike).kept (t3 b hbb)
  · rw [hU, t1.1]; exact Nat.le_add_right _ _
theorem vm_go {p : Program} {l : Launch} {e : Env} {R : Room} {s : State} {m : MethodId} {args : Array Value} {below : List Frame} {meth : Method} {c : Code} {H : Heap} {locs : List Loc} {Q : State → Prop} {D : va_G} {κ : Nat → ClassId} {base b adS L : Nat} {xs : Nat → Int32} {lsr : Array Slot} {w w1 : vm_W} {pc n0 k0 : Nat} {st rest : List Value} {v1 : Option Value} {a : Array Value}
    (hn : n0 ≤ w.1 ∧ k0 ≤ w.2.1) (hm : w.1 ≤ w1.1 ∧ w.2.1 ≤ w1.2.1) (hT : vm_T D κ base b adS L xs s.heap w H locs)
    (run : va_Run p l e R s m args below meth c H locs (w.1 - n0) (w.2.1 - k0) (w1.1 - w.1) (w1.2.1 - w.2.1) (F0 m pc lsr st) (rest.map (vm_v (vm_r base b adS))) (vm_Qc κ D base b adS L xs v1 w1 a) (fun q => base ≤ q))
    (kk : ∀ H' locs', vm_T D κ base b adS L xs s.heap w1 H' locs' → W p l e R s m args below meth c H' locs' (w1.1 - n0) (w1.2.1 - k0) Q (F0 m (pc + 3) lsr ((v1.toList ++ rest).map (vm_v (vm_r base b adS))))) :
    W p l e R s m args below meth c H locs (w.1 - n0) (w.2.1 - k0) Q (F0 m pc lsr st) := by
  obtain ⟨t1, t2, t3, t4⟩ := hT
  intro T hT' X
  obtain ⟨v, st₀, t, T', L', h0, X', hL', e1, e2, ⟨q1, q2, q3, q4⟩, stp⟩ := run T hT' X
  cases q1
  have a1 : w.1 - n0 + (w1.1 - w.1) = w1.1 - n0 := by omega
  have a2 : w.2.1 - k0 + (w1.2.1 - w.2.1) = w1.2.1 - k0 := by omega
  rw [a1, a2] at X'
  obtain ⟨t2', b1, b2⟩ := kk T'.heap (locs ++ L') ⟨by rw [e1]; exact q2, ⟨t2.1, Nat.le_trans t2.2 (by rw [e1, ← h0]; exact q3)⟩, fun q hq => by rw [e1, q4 q hq, h0]; exact t3 q hq, fun q hq => (List.mem_append.mp hq).elim (t4 q) (hL' q)⟩ T' rfl X'
  rw [vm_map_app] at b1
  exact ⟨t2', stp t2' b1, b2⟩
set_option maxHeartbeats 4000000 in
theorem vm_run_W (l : Launch) : ∀ F : Nat, vm_Run l F := by
  intro F
  induction F with
  | zero => intro d mid pc ls st w v wF h; cases h
  | succ F IH =>
    intro d mid pc ls st w v wF h r hr p e R s m args below meth c H locs Q κ D base b adS adV L xs n0 k0 lsr C hd hn hcap hLV hT hend
    rw [vm_run, hr] at h
    dsimp only at h
    have hok := vm_MT_ok r (List.mem_of_getElem? hr)
    split at h
    · cases h
    · rename_i q hq
      obtain ⟨hqin, hqpc⟩ := vm_find_in hq
      subst hqpc
      split at h
      · rename_i v' hv
        cases h
        exact hend q st lsr H locs hqin hv hT
      · split at h
        · rename_i mid' as rest hcall
          split at h
          · cases h
          · rename_i d'
            split at h
            · rename_i hlt
              split at h
              · cases h
              · rename_i r' hr'
                split at h
                · rename_i hlen
                  split at h
                  · cases h
                  · rename_i v1 w1 h1
                    have M := vm_met l IH hr' hlt h1 hlen κ D base b adS adV L xs
                    have m1 := vm_run_mono _ _ _ _ _ _ _ _ _ h1
                    have m2 := vm_run_mono _ _ _ _ _ _ _ _ _ h
                    have K : ∀ H' locs', vm_T D κ base b adS L xs s.heap w1 H' locs' → W p l e R s m args below meth c H' locs' (w1.1 - n0) (w1.2.1 - k0) Q (F0 m (q.1 + 3) lsr ((v1.toList ++ rest).map (vm_v (vm_r base b adS)))) := fun H' locs' hT' =>
                      IH (d' + 1) mid (q.1 + 3) ls (v1.toList ++ rest) w1 v wF h r hr p e R s m args below meth c H' locs' Q κ D base b adS adV L xs n0 k0 lsr C hd ⟨by omega, by omega⟩ hcap hLV hT' hend
                    have CC := C
                    obtain ⟨hx, hb, hml, hown, hts, hK, hAO, hN, hnm, hret, hlk, hX, hbb, hSI⟩ := C
                    obtain ⟨o, ho, hdec, hchk, hm20, hcl⟩ := hok
                    have hok' := vm_MT_ok r' (List.mem_of_getElem? hr')
                    obtain ⟨o', ho', -, -, hm20', hcl'⟩ := hok'
                    obtain ⟨hpl, hcode, hini, hy1, hy2⟩ := vm_callee hlt hr'
                    have hgood : GoodIn vm_G (vm_ws r') := fun x hxm => (List.mem_cons.mp hxm).elim (fun z => z ▸ vm_GG _ hcode) (fun z => vm_GG x z)
                    have hRm : (vm_rm d' (w1.1 - w.1) (w1.2.1 - w.2.1)).frames + 1 ≤ R.frames ∧ 8 + (r'.2.2.2.1 + 11) + (vm_rm d' (w1.1 - w.1) (w1.2.1 - w.2.1)).locals ≤ R.locals := ⟨hd.1, by show 8 + (r'.2.2.2.1 + 11) + (40 * d' + 20) ≤ R.locals; omega⟩
                    have hfit : w.1 - n0 + (w1.1 - w.1) ≤ R.cells ∧ w.2.1 - k0 + (w1.2.1 - w.2.1) ≤ R.slots := ⟨by omega, by omega⟩
                    have hdg := hdec q hqin
                    have hch := hchk q hqin
                    unfold vm_chk at hch
                    rw [Bool.and_eq_true, beq_iff_eq] at hch
                    obtain ⟨hlenq, hch⟩ := hch
                    have bl : FrameBlind (vm_Pc κ D base b adS adV L xs as w) := fun a U g mk z => z
                    refine vm_go (a := (as.map (vm_v (vm_r base b adS))).toArray) hn m1 hT ?_ K
                    rcases vm_call_i hcall with ⟨x, i, as', fs, e1, e2, rfl, rfl, e3, e4, e5, e6, rfl⟩ | ⟨x, e1, rfl, e3, e6, rfl⟩ | ⟨x, i, as', e1, e2, rfl, rfl, e3, e6, rfl⟩
                    · rw [e1] at hdg hch hlenq
                      rw [show q.2.2.1 = 3 from hlenq] at hdg
                      have hch : (decide ((o, x, q.2.2.2.1, q.2.2.2.2.1, q.2.2.2.2.2) ∈ vm_cT) && _) = true := hch
                      rw [Bool.and_eq_true] at hch
                      obtain ⟨own, r2, g1, g2, g3, g4, g5⟩ := vm_cT_ok _ (of_decide_eq_true hch.1)
                      cases ho.symm.trans g1
                      cases hr'.symm.trans g2
                      have e2' : q.2.2.2.1 = 0 := e2
                      rw [e2'] at g3 g4 g5
                      obtain ⟨l1, l2, l3⟩ := g3
                      have g4 := g4 (by decide)
                      have g5 := g5 rfl
                      obtain ⟨cq, hcq, hcn⟩ : ∃ cq, vwCl[q.2.2.2.2.2 / 100]? = some cq ∧ cq.1 = r'.2.1.cls := by
                        cases hz : vwCl[q.2.2.2.2.2 / 100]? with
                        | none => have g5 : (vwCl[q.2.2.2.2.2 / 100]?).map (fun x => x.1) = some r'.2.1.cls := g5; rw [hz] at g5; cases g5
                        | some cq => have g5 : (vwCl[q.2.2.2.2.2 / 100]?).map (fun x => x.1) = some r'.2.1.cls := g5; rw [hz] at g5; exact ⟨cq, rfl, Option.some.inj g5⟩
                      have hi : i < 1000 := Nat.lt_of_lt_of_le e4 hT.1.2.1
                      have cb : CallB R s args r.1 x r'.2.1 r'.2.2.1 r'.2.2.2.1 r'.2.2.2.2.1 (vm_ws r') (vm_rm d' (w1.1 - w.1) (w1.2.1 - w.2.1)) (w1.1 - w.1) (w1.2.1 - w.2.1) (q.2.2.2.2.2 % 100) := callB_of _ hts hgood rfl rfl rfl (hts _ hini) (hts _ l1) ⟨hy1, hy2, g4⟩ hRm
                      have hrec : ∃ cellB : Cell, H[vm_r base b adS i]? = some cellB ∧ cellB.vm.isStatics = false ∧ s.vm.findClass r'.2.1.cls = some cellB.cls := by
                        rw [vm_r_lt hi, ← hcn]
                        exact va_recv hK (vm_va_at hT.1 e4 e5) (q0 := 0) hcq rfl
                      exact va_runV (As := as'.map (vm_v (vm_r base b adS))) (C := r'.2.1.cls) (b := vm_r base b adS i) ⟨hx, hb, hml, hown, hts⟩ M ⟨cb, hts _ l2, hts _ l3⟩ ⟨bl, hrec, fun U hU hW => vm_Pc_of CC hT U hU hW⟩ rfl (by rw [List.length_map]; exact e3) hLV.2.1
                        (by show (as'.reverse ++ .ref i :: rest).map _ = _; rw [List.map_append, List.map_reverse]; rfl) (by show 2 * 0 + _ ≤ 8; have := vm_cats (ρ := vm_r base b adS) e6; omega) hdg hfit
                    · rw [e1] at hdg hch hlenq
                      rw [show q.2.2.1 = 3 from hlenq] at hdg
                      have hch : (decide ((o, x, q.2.2.2.1, q.2.2.2.2.1, q.2.2.2.2.2) ∈ vm_cT) && (q.2.2.2.1 == 1 || q.2.2.2.1 == 3)) = true := hch
                      rw [Bool.and_eq_true, Bool.or_eq_true, beq_iff_eq, beq_iff_eq] at hch
                      obtain ⟨own, r2, g1, g2, g3, g4, g5⟩ := vm_cT_ok _ (of_decide_eq_true hch.1)
                      cases ho.symm.trans g1
                      cases hr'.symm.trans g2
                      have g3 : vm_link r.1 x q.2.2.2.1 r' := g3
                      have g4 : q.2.2.2.1 < 5 → (parseMethodDescriptor r'.2.1.desc).map (fun d => d.parameters.length) = some (q.2.2.2.2.2 % 100) := g4
                      rcases hch.2 with e2 | e2
                      · rw [e2] at g3 g4
                        obtain ⟨l1, l2⟩ := g3
                        have cb : CallB R s args r.1 x r'.2.1 r'.2.2.1 r'.2.2.2.1 r'.2.2.2.2.1 (vm_ws r') (vm_rm d' (w1.1 - w.1) (w1.2.1 - w.2.1)) (w1.1 - w.1) (w1.2.1 - w.2.1) (q.2.2.2.2.2 % 100) := callB_of _ hts hgood rfl rfl rfl (hts _ hini) (hts _ l1) ⟨hy1, hy2, g4 (by decide)⟩ hRm
                        exact va_runS (As := as.map (vm_v (vm_r base b adS))) ⟨hx, hb, hml, hown, hts⟩ M ⟨cb, hts _ l2⟩ ⟨bl, fun U hU hW => vm_Pc_of CC hT U hU hW⟩ rfl (by rw [List.length_map]; exact e3) hLV.2.1
                          (by show (as.reverse ++ rest).map _ = _; rw [List.map_append, List.map_reverse]) (by show 2 * 0 + _ ≤ 8; have := vm_cats (ρ := vm_r base b adS) e6; omega) hdg hfit
                      · rw [e2] at g3 g4
                        obtain ⟨⟨hh, l1⟩, l2⟩ := g3
                        have cb := va_cnB (R := R) (q.2.2.2.2.2 % 100) hts hgood rfl (rm := vm_rm d' (w1.1 - w.1) (w1.2.1 - w.2.1)) rfl rfl (hN _ l1) (hts _ hini) ⟨hy1, hy2, g4 (by decide)⟩ hRm
                        exact va_runSN (As := as.map (vm_v (vm_r base b adS))) ⟨hx, hb, hml, hown, hts⟩ M ⟨cb, hts _ l2, trivial⟩ ⟨bl, fun U hU hW => vm_Pc_of CC hT U hU hW⟩ rfl (by rw [List.length_map]; exact e3) hLV.2.1
                          (by show (as.reverse ++ rest).map _ = _; rw [List.map_append, List.map_reverse]) (by show 2 * 0 + _ ≤ 8; have := vm_cats (ρ := vm_r base b adS) e6; omega) hdg hfit
                    · rw [e1] at hdg hch hlenq
                      rw [show q.2.2.1 = 3 from hlenq] at hdg
                      have hch : (decide ((o, x, q.2.2.2.1, q.2.2.2.2.1, q.2.2.2.2.2) ∈ vm_cT) && _) = true := hch
                      rw [Bool.and_eq_true] at hch
                      obtain ⟨own, r2, g1, g2, g3, g4, g5⟩ := vm_cT_ok _ (of_decide_eq_true hch.1)
                      cases ho.symm.trans g1
                      cases hr'.symm.trans g2
                      have g3 : vm_link r.1 x q.2.2.2.1 r' := g3
                      have g4 : q.2.2.2.1 < 5 → (parseMethodDescriptor r'.2.1.desc).map (fun d => d.parameters.length) = some (q.2.2.2.2.2 % 100) := g4
                      rcases e2 with e2 | e2
                      · rw [e2] at g3 g4
                        obtain ⟨l1, l2, l3, l4⟩ := g3
                        have cb : CallB R s args r.1 x r'.2.1 r'.2.2.1 r'.2.2.2.1 none (vm_ws r') (vm_rm d' (w1.1 - w.1) (w1.2.1 - w.2.1)) (w1.1 - w.1) (w1.2.1 - w.2.1) (q.2.2.2.2.2 % 100) := callB_of _ hts hgood (by unfold vm_ws; rw [l4]) rfl rfl (hts _ hini) (hts _ l1) ⟨hy1, hy2, g4 (by decide)⟩ hRm
                        exact va_runI (As := as'.map (vm_v (vm_r base b adS))) (b := vm_r base b adS i) ⟨hx, hb, hml, hown, hts⟩ M ⟨cb, l3, hts _ l2⟩ ⟨bl, fun U hU hW => vm_Pc_of CC hT U hU hW⟩ rfl (by rw [List.length_map]; exact e3) hLV.2.1
                          (by show (as'.reverse ++ .ref i :: rest).map _ = _; rw [List.map_append, List.map_reverse]; rfl) (by show 2 * 0 + _ ≤ 8; have := vm_cats (ρ := vm_r base b adS) e6; omega) hdg hfit
                      · rw [e2] at g3 g4
                        obtain ⟨⟨hh, l1⟩, l2, l3, l4⟩ := g3
                        have cb : va_CN R s args r.1 x r'.2.1 hh r'.2.2.1 r'.2.2.2.1 none (vm_ws r') (vm_rm d' (w1.1 - w.1) (w1.2.1 - w.2.1)) (w1.1 - w.1) (w1.2.1 - w.2.1) (q.2.2.2.2.2 % 100) := va_cnB (q.2.2.2.2.2 % 100) hts hgood (by unfold vm_ws; rw [l4]) rfl rfl (hN _ l1) (hts _ hini) ⟨hy1, hy2, g4 (by decide)⟩ hRm
                        exact va_runIN (As := as'.map (vm_v (vm_r base b adS))) (b := vm_r base b adS i) ⟨hx, hb, hml, hown, hts⟩ M ⟨cb, l3, hts _ l2⟩ ⟨bl, fun U hU hW => vm_Pc_of CC hT U hU hW⟩ rfl (by rw [List.length_map]; exact e3) hLV.2.1
                          (by show (as'.reverse ++ .ref i :: rest).map _ = _; rw [List.map_append, List.map_reverse]; rfl) (by show 2 * 0 + _ ≤ 8; have := vm_cats (ρ := vm_r base b adS) e6; omega) hdg hfit
                · cases h
            · cases h
        · split at h
          · cases h
          · rename_i pc' ls' st' w' hstep
            have m1 := vm_step_mono hstep
            have m2 := vm_run_mono _ _ _ _ _ _ _ _ _ h
            exact vm_step_W C hok hqin hd hstep hn ⟨by omega, by omega⟩ (fun lsr' H' locs' hLV' hT' => IH d mid pc' ls' st' w' v wF h r hr p e R s m args below meth c H' locs' Q κ D base b adS adV L xs n0 k0 lsr' C hd ⟨by omega, by omega⟩ hcap hLV' hT' hend) hLV hT
