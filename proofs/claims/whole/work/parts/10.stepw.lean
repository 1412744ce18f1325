/-! one instruction of the pure machine is one of the real one: the theorem -/
theorem vm_arrI : Cond.arrayClass .int ∈ vm_G := vm_r3 _ (List.mem_of_getElem? (i := 11) rfl)
theorem vm_va_at {D : va_G} {κ : Nat → ClassId} {base b adS L : Nat} {xs : Nat → Int32} {w : vm_W} {H : Heap} {i : Nat} {x : vm_E} (h : vm_H D κ base b adS L xs w H) (hi : i < w.1) (hx : w.2.2 i = x) : va_P D vwCl [(base + i, vm_c (vm_r base b adS) κ x)] H := by
  intro k q hk
  match k, hk with
  | 0, hk =>
    injection hk with hk
    subst hk
    rw [← hx]
    exact h.2.2.2 i hi
  | k + 1, hk => cases hk
theorem vm_fit_i {ty : FieldType} {v : Value} {ρ : Nat → Nat} (h : vm_fit ty v = true) : narrow ty (vm_v ρ v) = vm_v ρ v ∧ fits ty (vm_v ρ v) = true := by
  unfold vm_fit at h
  split at h
  · exact ⟨rfl, rfl⟩
  · exact ⟨rfl, rfl⟩
  · exact ⟨rfl, rfl⟩
  · cases h
theorem vm_get_map {fs : List Value} {k : Nat} {v : Value} (ρ : Nat → Nat) (h : fs[k]? = some v) : (fs.map (vm_v ρ))[k]? = some (vm_v ρ v) := by rw [List.getElem?_map, h]; rfl
theorem vm_dv (ρ : Nat → Nat) (ty : FieldType) : vm_v ρ (defaultValue ty) = defaultValue ty := by cases ty <;> rfl
section VMS
variable {p : Program} {l : Launch} {e : Env} {R : Room} {s : State} {m : MethodId} {args : Array Value} {below : List Frame} {meth : Method} {c : Code} {H : Heap} {locs : List Loc} {Q : State → Prop}
variable {D : va_G} {κ : Nat → ClassId} {base b adS adV L : Nat} {xs : Nat → Int32} {r : vm_M} {lsr : Array Slot} {ls ls' : vm_L} {st st' : List Value} {w w' : vm_W} {pc' n0 k0 d : Nat}
set_option maxHeartbeats 4000000 in
theorem vm_cmp0_W {cc : ByteArray} {pc tgt : Nat} {off : Int} {cd : Jvm.ClassFile.Cond} {x : Int32} {ls : Array Slot} {rest : List Value} {cells slots : Nat} (hx : p.tables.exec = Jvm.exec) (hb : c.code = cc) (hdg : decode cc pc = .ok (.ifCond cd off, 3)) (ht : (pc : Int) + off = (tgt : Int))
    (k : (vm_cmp cd x 0 = true → W p l e R s m args below meth c H locs cells slots Q (F0 m tgt ls rest)) ∧ (¬ vm_cmp cd x 0 = true → W p l e R s m args below meth c H locs cells slots Q (F0 m (pc + 3) ls rest))) : W p l e R s m args below meth c H locs cells slots Q (F0 m pc ls (.int x :: rest)) := by
  cases cd with
  | eq => exact lv_if_eq hx hb hdg ht (fun h => k.1 (decide_eq_true h)) (fun h => k.2 (fun z => h (of_decide_eq_true z)))
  | ne => exact lv_if_ne hx hb hdg ht (fun h => k.1 (decide_eq_true h)) (fun h => k.2 (fun z => of_decide_eq_true z h))
  | lt => exact lv_if_lt hx hb hdg ht (fun h => k.1 (decide_eq_true h)) (fun h => k.2 (fun z => h (of_decide_eq_true z)))
  | ge => exact lv_if_ge hx hb hdg ht (fun h => k.1 (decide_eq_true h)) (fun h => k.2 (fun z => h (of_decide_eq_true z)))
  | gt => exact lv_if_gt hx hb hdg ht (fun h => k.1 (decide_eq_true h)) (fun h => k.2 (fun z => h (of_decide_eq_true z)))
  | le => exact lv_if_le hx hb hdg ht (fun h => k.1 (decide_eq_true h)) (fun h => k.2 (fun z => h (of_decide_eq_true z)))
theorem vm_cmp2_W {cc : ByteArray} {pc tgt : Nat} {off : Int} {cd : Jvm.ClassFile.Cond} {x y : Int32} {ls : Array Slot} {rest : List Value} {cells slots : Nat} (hx : p.tables.exec = Jvm.exec) (hb : c.code = cc) (hdg : decode cc pc = .ok (.if_icmp cd off, 3)) (ht : (pc : Int) + off = (tgt : Int))
    (k : (vm_cmp cd x y = true → W p l e R s m args below meth c H locs cells slots Q (F0 m tgt ls rest)) ∧ (¬ vm_cmp cd x y = true → W p l e R s m args below meth c H locs cells slots Q (F0 m (pc + 3) ls rest))) : W p l e R s m args below meth c H locs cells slots Q (F0 m pc ls (.int y :: .int x :: rest)) := by
  cases cd with
  | eq => exact lv_icmp_eq hx hb hdg ht (fun h => k.1 (decide_eq_true h)) (fun h => k.2 (fun z => h (of_decide_eq_true z)))
  | ne => exact lv_icmp_ne hx hb hdg ht (fun h => k.1 (decide_eq_true h)) (fun h => k.2 (fun z => of_decide_eq_true z h))
  | lt => exact lv_icmp_lt hx hb hdg ht (fun h => k.1 (decide_eq_true h)) (fun h => k.2 (fun z => h (of_decide_eq_true z)))
  | ge => exact lv_icmp_ge hx hb hdg ht (fun h => k.1 (decide_eq_true h)) (fun h => k.2 (fun z => h (of_decide_eq_true z)))
  | gt => exact lv_icmp_gt hx hb hdg ht (fun h => k.1 (decide_eq_true h)) (fun h => k.2 (fun z => h (of_decide_eq_true z)))
  | le => exact lv_icmp_le hx hb hdg ht (fun h => k.1 (decide_eq_true h)) (fun h => k.2 (fun z => h (of_decide_eq_true z)))
/-- putfield -/
theorem vm_put_W {x i a bb o : Nat} {fs : List Value} {v : Value} {pc : Nat} {st0 : List Value} {cells slots : Nat} (C : vm_C D κ base b adS adV L xs p s m args meth c r) (ho : vm_nm[o]? = some r.1) (hcl : r.2.1.cls = r.1) (hf : vm_ff o x a bb)
    (hi : i < w.1) (he : w.2.2 i = .inr (.inr (a, fs))) (hl : bb < fs.length) (hfit : vm_fit (vm_ty a bb) v = true) (hfin : vm_fin r a bb = true) (hdg : decode r.2.2.1 pc = .ok (.putfield x, 3))
    (hT : vm_T D κ base b adS L xs s.heap w H locs)
    (kk : ∀ H' locs', vm_T D κ base b adS L xs s.heap (w.1, w.2.1, vm_up w.2.2 i (.inr (.inr (a, fs.set bb v)))) H' locs' → W p l e R s m args below meth c H' locs' cells slots Q (F0 m (pc + 3) lsr st0)) :
    W p l e R s m args below meth c H locs cells slots Q (F0 m pc lsr (vm_v (vm_r base b adS) v :: .ref (base + i) :: st0)) := by
  obtain ⟨hx, hb, hml, hown, hts, hK, hAO, hN, hnm, hret, hlk, hX, hbb, hSI⟩ := C
  obtain ⟨own, Cn, T, N, g1, g2, g3, g4⟩ := hf
  cases ho.symm.trans g1
  have ha : a < 11 := by
    have := (List.getElem?_eq_some_iff.mp g2).1
    exact this
  obtain ⟨C', T', N', z1, hin, hty, hnms⟩ := vm_clsA a ha
  cases g2.symm.trans z1
  obtain ⟨t1, t2, t3, t4⟩ := hT
  have hat := t1.2.2.2 i hi
  rw [he] at hat
  obtain ⟨r0, h1, cell, q1, q2, q3, q4⟩ := hat
  cases g2.symm.trans h1
  obtain ⟨hS, hfc, kC, hkC, hkind⟩ := hK.1 a _ g2
  obtain ⟨cf, kf, fi, f, hfi, hsl⟩ := hS bb g3
  have hlay := hts _ (hin _ (u_in_lay g3))
  have hap := va_apart (own := r.1) hts hin (vm_ty a) hty hnms hK g2
  have hst := (u_facts hfc hkC (u_lays hts hin g3) hfi).1
  obtain ⟨hn1, hn2⟩ := vm_fit_i (ρ := vm_r base b adS) hfit
  have hl' : bb < (fs.map (vm_v (vm_r base b adS))).length := by rw [List.length_map]; exact hl
  have fin : ∀ H' : Heap, H'[base + i]? = some (cell.setSlot f.slot (vm_v (vm_r base b adS) v)) → H'.size = H.size → (∀ q : Nat, q ≠ base + i → H'[q]? = H[q]?) → vm_T D κ base b adS L xs s.heap (w.1, w.2.1, vm_up w.2.2 i (.inr (.inr (a, fs.set bb v)))) H' (locs ++ [⟨base + i, f.slot⟩]) := by
    intro H' e1 e2 e3
    rw [hsl] at e1
    refine ⟨vm_H_up t1 hi e2 e3 ⟨_, g2, ?_⟩, ⟨t2.1, by rw [e2]; exact t2.2⟩, fun q hq => (e3 q (by omega)).trans (t3 q hq), fun q hq => ?_⟩
    · show t_OB (base + i) (D.1 a) N (D.2 a) H' (vp_V ((fs.set bb v).map (vm_v (vm_r base b adS))))
      rw [List.map_set]
      exact t_OB.to (V := updV (vp_V (fs.map (vm_v (vm_r base b adS)))) bb (vm_v (vm_r base b adS) v)) ⟨_, e1, q2, q3, t_set q4 hap g3 _⟩ (fun j _ => vp_updV_set hl' _ j)
    · rcases List.mem_append.mp hq with h | h
      · exact t4 q h
      · rw [List.mem_singleton.mp h]; exact Nat.le_add_right _ _
  unfold vm_fin at hfin
  rw [g2] at hfin
  by_cases hfb : (T bb).2.2.2 = true
  · have hfin : ((T bb).2.2.2 == false || ((r.2.1.name == "<init>") && ((T bb).1 == r.1))) = true := hfin
    rw [hfb] at hfin
    have hfin : ((r.2.1.name == "<init>") && ((T bb).1 == r.1)) = true := hfin
    rw [Bool.and_eq_true, beq_iff_eq, beq_iff_eq] at hfin
    unfold u_lay at hlay
    rw [if_pos hfb] at hlay
    have hcf : m.cls = cf := by
      obtain ⟨_, _, c', _, _, _, -, -, hf', -, -, -, hown2, -⟩ := Cond.laysFinal_spec hlay
      have e1 : c' = cf := by have := hfi.symm.trans hf'; simp at this; exact this.1.symm
      rw [hfin.2] at hown2
      rw [← e1]; exact Option.some.inj (hown.symm.trans hown2)
    have h6 := u_fits hfc hkC hkind (Or.inr hlay) hfi (hty bb g3) hn1 hn2
    exact W.putFinK hx hb hown (hts _ g4) hfi hst hcf (hnm hfin.1) (by rw [q2]; exact h6) q1 q3 (by rw [hsl]; exact k2_hasslot (q4 bb g3)) rfl rfl hdg fun H' e1 e2 e3 => kk H' _ (fin H' e1 e2 e3)
  · have hfb : (T bb).2.2.2 = false := by simpa using hfb
    unfold u_lay at hlay
    rw [if_neg (by rw [hfb]; decide)] at hlay
    have h6 := u_store hfc hkC hkind hlay hfi (hty bb g3) hn1 hn2
    exact W.putK hx hb (f := f) ⟨hown, hts _ g4, ⟨_, _, _, hfi⟩, hst⟩ (by rw [q2]; exact h6) q1 q3 (by rw [hsl]; exact k2_hasslot (q4 bb g3)) rfl rfl hdg fun H' e1 e2 e3 => kk H' _ (fin H' e1 e2 e3)
/-- iastore -/
theorem vm_ast_W {i n pc : Nat} {j x : Int32} {f : Nat → Int32} {st0 : List Value} {cells slots : Nat} (C : vm_C D κ base b adS adV L xs p s m args meth c r) (hi : i < w.1) (he : w.2.2 i = .inl (n, f)) (hin : vp_in j n) (hdg : decode r.2.2.1 pc = .ok (.iastore, 1))
    (hT : vm_T D κ base b adS L xs s.heap w H locs)
    (kk : ∀ H' locs', vm_T D κ base b adS L xs s.heap (w.1, w.2.1, vm_up w.2.2 i (.inl (n, upd f j.toNatClampNeg x))) H' locs' → W p l e R s m args below meth c H' locs' cells slots Q (F0 m (pc + 1) lsr st0)) :
    W p l e R s m args below meth c H locs cells slots Q (F0 m pc lsr (.int x :: .int j :: .ref (base + i) :: st0)) := by
  obtain ⟨hx, hb, hml, hown, hts, hK, hAO, hN, hnm, hret, hlk, hX, hbb, hSI⟩ := C
  obtain ⟨t1, t2, t3, t4⟩ := hT
  have hat := t1.2.2.2 i hi
  rw [he] at hat
  refine W.iast hx hb hat ((hK.2 0 _ rfl).1 n (fun j => .int (f j))) (fun q => by cases q) (by show ¬ (j < 0 ∨ (arrV _ _ _).slots.size ≤ _); rw [arrV_size]; exact hin) rfl rfl hdg fun H1 e1 z oq => ?_
  refine kk H1 _ ⟨vm_H_up t1 hi z oq ?_, ⟨t2.1, by rw [z]; exact t2.2⟩, fun q hq => (oq q (by show q ≠ base + i; omega)).trans (t3 q hq), fun q hq => ?_⟩
  · show H1[base + i]? = some (vp_cell _ _)
    rw [e1]
    show some ((vp_cell (κ 0) (n, .inl f)).setSlot j.toNatClampNeg (.int x)) = some (vp_cell (κ 0) (n, .inl (upd f j.toNatClampNeg x)))
    rw [vp_cell_i, vp_cell_i, arrV_store]
    congr 2
    funext q
    unfold updV upd
    split <;> rfl
  · rcases List.mem_append.mp hq with h | h
    · exact t4 q h
    · rw [List.mem_singleton.mp h]; exact Nat.le_add_right _ _
/-- aastore -/
theorem vm_qst_W {i n v pc : Nat} {j : Int32} {g : Nat → Option Nat} {fs st0 : List Value} {cells slots : Nat} (C : vm_C D κ base b adS adV L xs p s m args meth c r) (hi : i < w.1) (hv : v < w.1) (hev : w.2.2 v = .inr (.inr (0, fs))) (he : w.2.2 i = .inr (.inl (n, g))) (hin : vp_in j n) (hdg : decode r.2.2.1 pc = .ok (.aastore, 1))
    (hT : vm_T D κ base b adS L xs s.heap w H locs)
    (kk : ∀ H' locs', vm_T D κ base b adS L xs s.heap (w.1, w.2.1, vm_up w.2.2 i (.inr (.inl (n, va_up g j.toNatClampNeg (some v))))) H' locs' → W p l e R s m args below meth c H' locs' cells slots Q (F0 m (pc + 1) lsr st0)) :
    W p l e R s m args below meth c H locs cells slots Q (F0 m pc lsr (.ref (base + v) :: .int j :: .ref (base + i) :: st0)) := by
  obtain ⟨hx, hb, hml, hown, hts, hK, hAO, hN, hnm, hret, hlk, hX, hbb, hSI⟩ := C
  obtain ⟨t1, t2, t3, t4⟩ := hT
  have hw : w.1 ≤ 1000 := t1.2.1
  have hat := t1.2.2.2 i hi
  rw [he] at hat
  have hav := t1.2.2.2 v hv
  rw [hev] at hav
  obtain ⟨r', hr', cellV, g1, g2, g3, -⟩ := hav
  have hcls := (hK.1 0 _ rfl).2
  obtain ⟨kA, comp, k1, k2, k3, -⟩ := (hK.2 1 _ rfl).2
  have hcomp : comp = D.1 0 := Option.some.inj (k3.symm.trans hcls.1)
  subst hcomp
  obtain ⟨kC, hkC, -⟩ := hcls.2
  have hlt : j.toNatClampNeg < n := Nat.not_le.mp fun q => hin (Or.inr q)
  have h0 : ¬ j < 0 := fun q => hin (Or.inl q)
  refine W.aast hx hb hat (fun q h => by cases h) (fun h => by cases h) k1 k2 rfl hkC ⟨h0, by show _ < (arrV _ _ _).slots.size; rw [arrV_size]; exact hlt⟩ g1 (fun q h => by rw [g3] at h; cases h) (by rw [g2]; exact hkC) (by rw [g2]; exact va_assign hcls) rfl rfl hdg fun H1 e1 z oq => ?_
  refine kk H1 _ ⟨vm_H_up t1 hi z oq ?_, ⟨t2.1, by rw [z]; exact t2.2⟩, fun q hq => (oq q (by show q ≠ base + i; omega)).trans (t3 q hq), fun q hq => ?_⟩
  · show H1[base + i]? = some (vp_cell _ _)
    rw [e1]
    show some ((vp_cell (κ 1) (n, .inr (.inr (.inr (.inr (fun j => (g j).map (vm_r base b adS))))))).setSlot j.toNatClampNeg (.ref (base + v))) = some (vp_cell (κ 1) (n, .inr (.inr (.inr (.inr (fun q => ((va_up g j.toNatClampNeg (some v)) q).map (vm_r base b adS)))))))
    rw [vp_cell_q, vp_cell_q, arrV_store]
    congr 2
    funext q
    unfold updV va_up
    split
    · show Value.ref (base + v) = va_rf (some (vm_r base b adS v))
      rw [vm_r_lt (by omega)]; rfl
    · rfl
  · rcases List.mem_append.mp hq with h | h
    · exact t4 q h
    · rw [List.mem_singleton.mp h]; exact Nat.le_add_right _ _
/-- newarray -/
theorem vm_newi_W {pc : Nat} {n : Int32} {st0 : List Value} (C : vm_C D κ base b adS adV L xs p s m args meth c r) (hn : ¬ n < 0) (hN : n.toNatClampNeg ≤ 1000) (hw : w.1 < 1000) (hdg : decode r.2.2.1 pc = .ok (.newarray .int, 2)) {cells slots : Nat} (hc1 : cells + 1 ≤ R.cells) (hc2 : slots + n.toNatClampNeg ≤ R.slots)
    (hT : vm_T D κ base b adS L xs s.heap w H locs)
    (kk : ∀ H' locs', vm_T D κ base b adS L xs s.heap (w.1 + 1, w.2.1 + n.toNatClampNeg, vm_up w.2.2 w.1 (.inl (n.toNatClampNeg, fun _ => 0))) H' locs' → W p l e R s m args below meth c H' locs' (cells + 1) (slots + n.toNatClampNeg) Q (F0 m (pc + 2) lsr (.ref (base + w.1) :: st0))) :
    W p l e R s m args below meth c H locs cells slots Q (F0 m pc lsr (.int n :: st0)) := by
  obtain ⟨hx, hb, hml, hown, hts, hK, hAO, hNe, hnm, hret, hlk, hX, hbb, hSI⟩ := C
  obtain ⟨t1, t2, t3, t4⟩ := hT
  have harr : (Cond.arrayClass (newarray.typeOf .int)).before args s = true := hts _ vm_arrI
  refine va_newaK hx hb harr rfl hdg rfl hn rfl (by show n.toNatClampNeg * 4 ≤ _; omega) hc1 hc2 t1.1 fun H1 cA e1 z1 o1 hAr hNm => ?_
  have hcA : cA = κ 0 := Option.some.inj (hNm.symm.trans (hK.2 0 _ rfl).2)
  subst hcA
  refine kk H1 locs ⟨vm_H_push t1 hw (z1.trans (by rw [t1.1])) (fun q hq => o1 q (by rw [← t1.1]; exact hq)) ?_, ⟨t2.1, by have := t1.1; omega⟩, fun q hq => (o1 q (by omega)).trans (t3 q hq), t4⟩
  show H1[base + w.1]? = some (vp_cell _ _)
  rw [e1]; rfl
/-- anewarray -/
theorem vm_newq_W {pc x o : Nat} {n : Int32} {st0 : List Value} (C : vm_C D κ base b adS adV L xs p s m args meth c r) (ho : vm_nm[o]? = some r.1) (hf : vm_nf o x 0) (hn : ¬ n < 0) (hN : n.toNatClampNeg ≤ 1000) (hw : w.1 < 1000) (hdg : decode r.2.2.1 pc = .ok (.anewarray x, 3)) {cells slots : Nat} (hc1 : cells + 1 ≤ R.cells) (hc2 : slots + n.toNatClampNeg ≤ R.slots)
    (hT : vm_T D κ base b adS L xs s.heap w H locs)
    (kk : ∀ H' locs', vm_T D κ base b adS L xs s.heap (w.1 + 1, w.2.1 + n.toNatClampNeg, vm_up w.2.2 w.1 (.inr (.inl (n.toNatClampNeg, fun _ => none)))) H' locs' → W p l e R s m args below meth c H' locs' (cells + 1) (slots + n.toNatClampNeg) Q (F0 m (pc + 3) lsr (.ref (base + w.1) :: st0))) :
    W p l e R s m args below meth c H locs cells slots Q (F0 m pc lsr (.int n :: st0)) := by
  obtain ⟨hx, hb, hml, hown, hts, hK, hAO, hNe, hnm, hret, hlk, hX, hbb, hSI⟩ := C
  obtain ⟨t1, t2, t3, t4⟩ := hT
  obtain ⟨own, Cn, T, N, g1, g2, g3, g4, g5⟩ := hf
  cases ho.symm.trans g1
  cases (show some (RX0, TX0, 3) = some (Cn, T, N) from g2)
  refine W.anew hx hb hown (hts _ g3) (va_AO.use hAO) rfl hdg rfl hn (by omega) hc1 hc2 fun cA kA comp f1 f2 f3 f4 => ?_
  obtain ⟨kA', comp', k1, k2, k3, k4⟩ := (hK.2 1 _ rfl).2
  have hcA : cA = κ 1 := Option.some.inj (f1.symm.trans k4)
  subst hcA
  generalize hH1 : H.push ({ cls := κ 1, slots := Array.replicate n.toNatClampNeg .null, vm := .none } : Cell) = H1
  have z1 : H1.size = H.size + 1 := by rw [← hH1, Array.size_push]
  have e1 : H1[H.size]? = some (arrV (κ 1) n.toNatClampNeg (fun _ => .null)) := by rw [← hH1, Array.getElem?_push_size, ← arrV_new]
  have o1 : ∀ q : Nat, q < H.size → H1[q]? = H[q]? := fun q hq => by rw [← hH1, Array.getElem?_push, if_neg (Nat.ne_of_lt hq)]
  have hs := t1.1
  have K := kk H1 locs ⟨vm_H_push t1 hw z1 o1 (by show H1[base + w.1]? = some (vp_cell _ _); rw [← t1.1, e1]; rfl), ⟨t2.1, by omega⟩, fun q hq => (o1 q (by omega)).trans (t3 q hq), t4⟩
  rw [← hs] at K
  exact K
/-- new -/
theorem vm_new_W {pc x o a N : Nat} {Cn : String} {T : u_T} {st0 : List Value} (C : vm_C D κ base b adS adV L xs p s m args meth c r) (ho : vm_nm[o]? = some r.1) (hf : vm_nf o x a) (hcl : vwCl[a]? = some (Cn, T, N)) (hw : w.1 < 1000) (hdg : decode r.2.2.1 pc = .ok (.new x, 3)) {cells slots : Nat} (hc1 : cells + 1 ≤ R.cells) (hc2 : slots + N ≤ R.slots)
    (hT : vm_T D κ base b adS L xs s.heap w H locs)
    (kk : ∀ H' locs', vm_T D κ base b adS L xs s.heap (w.1 + 1, w.2.1 + N, vm_up w.2.2 w.1 (.inr (.inr (a, (List.range N).map (fun j => defaultValue (vm_ty a j)))))) H' locs' → W p l e R s m args below meth c H' locs' (cells + 1) (slots + N) Q (F0 m (pc + 3) lsr (.ref (base + w.1) :: st0))) :
    W p l e R s m args below meth c H locs cells slots Q (F0 m pc lsr st0) := by
  obtain ⟨hx, hb, hml, hown, hts, hK, hAO, hNe, hnm, hret, hlk, hX, hbb, hSI⟩ := C
  obtain ⟨t1, t2, t3, t4⟩ := hT
  obtain ⟨own, Cn', T', N', g1, g2, g3, g4, g5⟩ := hf
  cases ho.symm.trans g1
  cases hcl.symm.trans g2
  have ha : a < 11 := (List.getElem?_eq_some_iff.mp g2).1
  obtain ⟨C', T', N', z1, hin, hty, hnms⟩ := vm_clsA a ha
  cases g2.symm.trans z1
  have hKn := hK.1 a _ g2
  refine W.newcK hx hb hown (hts _ g3) (hts _ g4) (hts _ g5) rfl hdg hc1 hc2 hKn.2.1 t1.1 fun H1 kC hkC e1 z1 o1 => ?_
  refine kk H1 locs ⟨vm_H_push t1 hw (z1.trans (by rw [t1.1])) (fun q hq => o1 q (by rw [← t1.1]; exact hq)) ⟨_, g2, ?_⟩, ⟨t2.1, by have := t1.1; omega⟩, fun q hq => (o1 q (by omega)).trans (t3 q hq), t4⟩
  refine (u_born (vm_ty a) hts hin hKn hkC e1 hty).to fun j hj => ?_
  show defaultValue (vm_ty a j) = vp_V (((List.range N).map (fun j => defaultValue (vm_ty a j))).map (vm_v (vm_r base b adS))) j
  unfold vp_V
  rw [List.getD_eq_getElem?_getD, List.getElem?_map, List.getElem?_map, List.getElem?_range hj]
  exact (vm_dv _ _).symm
end VMS
