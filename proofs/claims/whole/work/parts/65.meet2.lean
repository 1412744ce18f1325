/-! meet, the class' side -/
def PostK (s : St) (R : Option (Int × BS)) (z : Int) (t : St) : Prop := match R with
  | none => z = -4 ∧ KFr s t
  | some (e, B) => ∃ n : Nat, z = n ∧ (n : Int) ≤ 80 ∧ pthOk B.2.2.1 e n ∧ KFr s t ∧ vF t 88 1 = n ∧ ∀ q : Int, 0 ≤ q → q < n → vA t 89 q = B.2.2.2.1 (pth B.2.2.1 e q.toNat)
def ansR (R : Option (Int × BS)) (k z : Int) : Prop := match R with
  | none => z = -4
  | some (e, B) => ∃ n : Nat, pthOk B.2.2.1 e n ∧ z = (if k = -1 then (n : Int) else if k < n then B.2.2.2.1 (pth B.2.2.1 e ((n : Int) - 1 - k).toNat) else -4)
theorem ansR.un {R : Option (Int × BS)} {k z z' : Int} (h : ansR R k z) (g : ansR R k z') : z = z' := by
  unfold ansR at h g
  split at h
  · exact h.trans g.symm
  · obtain ⟨n, h1, h2⟩ := h
    obtain ⟨m, g1, g2⟩ := g
    have := pth_un h1 g1
    subst this
    exact h2.trans g2.symm
theorem PostK.b {s t : St} {R : Option (Int × BS)} {z : Int} (h : PostK s R z t) : -4 ≤ z ∧ z ≤ 80 := by
  unfold PostK at h
  split at h
  · omega
  · obtain ⟨n, h1, h2, _⟩ := h; omega
theorem PostK.fr {s t : St} {R : Option (Int × BS)} {z : Int} (h : PostK s R z t) : KFr s t := by
  unfold PostK at h
  split at h
  · exact h.2
  · obtain ⟨n, h1, h2, h3, h4, _⟩ := h; exact h4
theorem PostK.a1 {s t : St} {R : Option (Int × BS)} {z k : Int} (h : PostK s R z t) (hk : k = -1 ∨ z = -4) : ansR R k z := by
  unfold PostK at h
  unfold ansR
  split at h
  · exact h.1
  · obtain ⟨n, h1, h2, h3, _⟩ := h
    refine ⟨n, h3, ?_⟩
    rw [if_pos (by omega)]; exact h1
theorem PostK.a2 {s t : St} {R : Option (Int × BS)} {z k : Int} (h : PostK s R z t) (hk : 0 ≤ k) (hz : ¬ z = -4) : 0 ≤ vF t 88 1 ∧ vF t 88 1 ≤ 80 ∧ ansR R k (if k < vF t 88 1 then vA t 89 (vF t 88 1 - 1 - k) else -4) := by
  unfold PostK at h
  unfold ansR
  split at h
  · exact absurd h.1 hz
  · obtain ⟨n, h1, h2, h3, h4, h5, h6⟩ := h
    refine ⟨by omega, by omega, n, h3, ?_⟩
    rw [if_neg (show ¬ k = -1 by omega), h5]
    by_cases c : k < (n : Int)
    · rw [if_pos c, if_pos c, h6 _ (by omega) (by omega)]
    · rw [if_neg c, if_neg c]
set_option maxHeartbeats 1000000 in
set_option maxRecDepth 4000 in
theorem c_traceBack {X : vX} {s : St} {u : St} {B : BS} {L e : Int} {n : Nat} (o : KB s u B) (hI : BI L B) (e0 : 0 ≤ e) (e1 : e < B.1) (hp : pthOk B.2.2.1 e n) (hn : (n : Int) ≤ 80) : OkI X 1 42 [.ref 79, .int (iI e)] u (fun z t => z = (n : Int) ∧ KFr s t ∧ vF t 88 1 = n ∧ ∀ q : Int, 0 ≤ q → q < n → vA t 89 q = B.2.2.2.1 (pth B.2.2.1 e q.toNat)) := by
  refine Ok.of (r := vm_m42) (ls := [some (.ref 79), some (.int (iI e)), none, none]) rfl (Nat.le_of_ble_eq_true rfl) rfl (fun d hd => ?_)
  have hM := hI.le
  have pl := fun i hi => pth_lt (fun j a b => ⟨(hI.2.2.2.2.2.2 j a b).1, (hI.2.2.2.2.2.2 j a b).2.1⟩) e0 e1 hp i hi
  have cells := o.2.2.2.2.2.2.1
  refine Gs_iload_n p42_0 rfl rfl ?_
  refine Gs_ist2 p42_1 (by first | rfl | assumption) ?_
  refine Gs_iconst p42_2 ?_
  refine Gs_ist3 p42_3 (by first | rfl | assumption) ?_
  refine dn (n := ((n : Nat) : Int)) (P := fun i => ∀ y, (∀ a z, a ≠ 89 → vA y a z = vA u a z) → (∀ a k, ¬ (a = 88 ∧ k = 1) → vF y a k = vF u a k) → vF y 88 1 = i → (∀ q : Int, 0 ≤ q → q < i → vA y 89 q = B.2.2.2.1 (pth B.2.2.1 e q.toNat)) → Gs X d 42 4 [some (.ref 79), some (.int (iI e)), some (.int (iI (pth B.2.2.1 e i.toNat))), some (.int (iI i))] [] (y) (fun vv yy => ∃ zz : Int, vv = some (.int (iI zz)) ∧ (fun z t => z = (n : Int) ∧ KFr s t ∧ vF t 88 1 = n ∧ ∀ q : Int, 0 ≤ q → q < n → vA t 89 q = B.2.2.2.1 (pth B.2.2.1 e q.toNat)) zz yy)) (by omega) (fun i hi hin ih => ?_) ?_ u (fun _ _ _ => rfl) (fun _ _ _ => rfl) o.2.2.2.2.2.1 (fun q q0 q1 => absurd q1 (by omega))
  · show ∀ y, (∀ a z, a ≠ 89 → vA y a z = vA u a z) → (∀ a k, ¬ (a = 88 ∧ k = 1) → vF y a k = vF u a k) → vF y 88 1 = i → (∀ q : Int, 0 ≤ q → q < i → vA y 89 q = B.2.2.2.1 (pth B.2.2.1 e q.toNat)) → Gs X d 42 4 [some (.ref 79), some (.int (iI e)), some (.int (iI (pth B.2.2.1 e i.toNat))), some (.int (iI i))] [] (y) _
    intro y ya yf y8 yq
    have pp := hp.2 i.toNat (by omega)
    have pb := pl i.toNat (by omega)
    have c1 := cells _ pb.1 pb.2
    have z82 : vF y 82 1 = B.1 := (yf 82 1 (by omega)).trans o.2.2.1
    have z84 : vF y 84 1 = B.1 := (yf 84 1 (by omega)).trans o.2.2.2.1
    refine Gs_iload_n p42_4 rfl rfl ?_
    refine Gs_bipush p42_5 (by decide) ?_
    refine Gs_icmp_ge (tgt := 44) p42_7 (by rfl) (by first | assumption | exact ⟨by omega, by omega⟩ | (split <;> exact ⟨by omega, by omega⟩)) (by first | assumption | exact ⟨by omega, by omega⟩ | (split <;> exact ⟨by omega, by omega⟩)) (fun h7 => absurd ‹_› (by first | omega | assumption)) (fun h7 => ?_)
    refine Gs_iload_n p42_10 rfl rfl ?_
    refine Gs_if_le (tgt := 44) p42_11 (by rfl) (by first | assumption | exact ⟨by omega, by omega⟩ | (split <;> exact ⟨by omega, by omega⟩)) (fun hc11 => absurd ‹_› (by first | omega | assumption)) (fun hc11 => ?_)
    refine Gs_aload_n p42_14 rfl rfl ?_
    refine Gs_getR p42_15 (by first | rfl | assumption | exact (show isTale _ from by assumption).1 | exact (show isCamp _ _ from by assumption).1 | exact (show isRow _ _ from by assumption).1) (by rfl) ?_
    refine Gs_aload_n p42_18 rfl rfl ?_
    refine Gs_getR p42_19 (by first | rfl | assumption | exact (show isTale _ from by assumption).1 | exact (show isCamp _ _ from by assumption).1 | exact (show isRow _ _ from by assumption).1) (by rfl) ?_
    refine Gs_iload_n p42_22 rfl rfl ?_
    refine Gs_callV1I p42_23 (by rfl) (by rfl) (by rfl) (Nat.le_of_ble_eq_true rfl) (by decide) (c_agot (a := 85) row84 rfl ⟨by omega, by omega⟩ (by omega) (by omega) (by omega) (by omega)) (by omega) ?_
    rw [ya 85 _ (by decide), c1.2.2]
    refine Gs_callV1W p42_26 (by rfl) (by rfl) (by rfl) (Nat.le_of_ble_eq_true rfl) (by decide) (c_aadd (a := 89) row88 rfl (by omega) (by omega)) (by omega) ?_
    refine Gs_aload_n p42_29 rfl rfl ?_
    refine Gs_getR p42_30 (by first | rfl | assumption | exact (show isTale _ from by assumption).1 | exact (show isCamp _ _ from by assumption).1 | exact (show isRow _ _ from by assumption).1) (by rfl) ?_
    refine Gs_iload_n p42_33 rfl rfl ?_
    refine Gs_callV1I p42_34 (by rfl) (by rfl) (by rfl) (Nat.le_of_ble_eq_true rfl) (by decide) (c_agot (a := 83) row82 rfl ⟨by omega, by omega⟩ (show 0 ≤ vF y 82 1 by omega) (show vF y 82 1 ≤ ((81 : Nat) : Int) by omega) (by omega) (show _ < vF y 82 1 by omega)) (by omega) ?_
    rw [show vA (sF (sA y 89 (vF y 88 1) _) 88 1 (vF y 88 1 + 1)) 83 (pth B.2.2.1 e i.toNat) = B.2.2.1 (pth B.2.2.1 e i.toNat) from by rw [vA_sF, vA_sA, if_neg (by omega), ya 83 _ (by decide)]; exact c1.2.1]
    refine Gs_ist2 p42_37 (by first | rfl | assumption) ?_
    refine Gs_iinc3 (b53 := none) p42_38 (by first | rfl | assumption) ?_
    refine Gs_goto (tgt := 4) p42_41 (by rfl) ?_
    have ih2 := ih (sF (sA y 89 (vF y 88 1) (B.2.2.2.1 (pth B.2.2.1 e i.toNat))) 88 1 (vF y 88 1 + 1)) (fun a z h => by rw [vA_sF, vA_sA, if_neg (fun q => h q.1)]; exact ya a z h) (fun a k h => by rw [vF_sF, if_neg h]; exact yf a k h) (by rw [vF_sF, if_pos ⟨rfl, rfl⟩, y8]) (fun q q0 q1 => by
      rw [vA_sF, vA_sA, y8]
      by_cases eq : q = i
      · rw [if_pos ⟨rfl, eq⟩, eq]
      · rw [if_neg (fun r => eq r.2)]; exact yq q q0 (by omega))
    rw [show pth B.2.2.1 e (i + 1).toNat = B.2.2.1 (pth B.2.2.1 e i.toNat) by rw [show (i + 1).toNat = i.toNat + 1 by omega]; rfl] at ih2
    exact ih2
  · show ∀ y, (∀ a z, a ≠ 89 → vA y a z = vA u a z) → (∀ a k, ¬ (a = 88 ∧ k = 1) → vF y a k = vF u a k) → vF y 88 1 = (((n : Nat) : Int)) → (∀ q : Int, 0 ≤ q → q < (((n : Nat) : Int)) → vA y 89 q = B.2.2.2.1 (pth B.2.2.1 e q.toNat)) → Gs X d 42 4 [some (.ref 79), some (.int (iI e)), some (.int (iI (pth B.2.2.1 e (((n : Nat) : Int)).toNat))), some (.int (iI (((n : Nat) : Int))))] [] (y) _
    intro y ya yf y8 yq
    have pz : pth B.2.2.1 e ((n : Int)).toNat = 0 := hp.1
    refine Gs_iload_n p42_4 rfl rfl ?_
    refine Gs_bipush p42_5 (by decide) ?_
    refine Gs_icmp_ge (tgt := 44) p42_7 (by rfl) (by first | assumption | exact ⟨by omega, by omega⟩ | (split <;> exact ⟨by omega, by omega⟩)) (by first | assumption | exact ⟨by omega, by omega⟩ | (split <;> exact ⟨by omega, by omega⟩)) (fun h7 => absurd ‹_› (by first | omega | assumption)) (fun h7 => ?_)
    refine Gs_iload_n p42_10 rfl rfl ?_
    rw [pz]
    refine Gs_if_le (tgt := 44) p42_11 (by rfl) ⟨by omega, by omega⟩ (fun hc11 => ?_) (fun hc11 => absurd ‹_› (by first | omega | assumption))
    refine Gs_aload_n p42_44 rfl rfl ?_
    refine Gs_getR p42_45 (by first | rfl | assumption | exact (show isTale _ from by assumption).1 | exact (show isCamp _ _ from by assumption).1 | exact (show isRow _ _ from by assumption).1) (by rfl) ?_
    refine Gs_callV0I p42_48 (by rfl) (by rfl) (by rfl) (Nat.le_of_ble_eq_true rfl) (by decide) (c_size row88) (by omega) ?_
    refine Gs_iret p42_51 rfl ⟨_, rfl, ?_⟩
    refine ⟨y8, ⟨fun a z h => (ya a z (by omega)).trans (o.1.1 a z h), fun a k h => (yf a k (by omega)).trans (o.1.2 a k h)⟩, y8, yq⟩

set_option maxHeartbeats 4000000 in
set_option maxRecDepth 4000 in
theorem c_shortest {X : vX} {s : St} {L a b : Int} (hT : TaleOk s 5) (hL : L ≤ 9) (hcl : ∀ l w, 0 ≤ l → l < L → 0 ≤ w → w < 4 → 0 ≤ cfI s 5 l w ∧ cfI s 5 l w < L) (a0 : 0 ≤ a) (a1 : a < L) (b0 : 0 ≤ b) (b1 : b < L) : OkI X 5 39 [.ref 79, .int (iI a), .int (iI b)] s (PostK s (bfs (cfI s 5) 81 0 (B0 (a * 9 + b)))) := by
  refine Ok.of (r := vm_m39) (ls := [some (.ref 79), some (.int (iI a)), some (.int (iI b)), none, none, none, none]) rfl (Nat.le_of_ble_eq_true rfl) rfl (fun d hd => ?_)
  have o0 : KB s (cF (sF (sF (sF (sF (sF s 80 1 0) 82 1 0) 84 1 0) 88 1 0) 86 1 81) 87 81 0) (0, fun _ => 0, fun _ => 0, fun _ => 0, fun _ => 0) := by
    refine ⟨⟨fun a z h => ?_, fun a k h => ?_⟩, rfl, rfl, rfl, rfl, rfl, fun j j0 j1 => absurd (show j < 0 from j1) (by omega), fun p p0 p1 => ?_⟩
    · rw [cF_A, if_neg (by omega)]; rfl
    · rw [cF_F, vF_sF, if_neg (by omega), vF_sF, if_neg (by omega), vF_sF, if_neg (by omega), vF_sF, if_neg (by omega), vF_sF, if_neg (by omega)]
    · rw [cF_A, if_pos ⟨rfl, p0, p1⟩]
  have bi0 : BI L (B0 (a * 9 + b)) := BI.b0 hL (by omega) (by omega) (by omega)
  generalize hR : bfs (cfI s 5) 81 0 (B0 (a * 9 + b)) = R
  refine Gs_aload_n p39_0 rfl rfl ?_
  refine Gs_getR p39_1 (by first | rfl | assumption | exact (show isTale _ from by assumption).1 | exact (show isCamp _ _ from by assumption).1 | exact (show isRow _ _ from by assumption).1) (by rfl) ?_
  refine Gs_callV0W p39_4 (by rfl) (by rfl) (by rfl) (Nat.le_of_ble_eq_true rfl) (by decide) (c_clear row80) (by omega) ?_
  refine Gs_aload_n p39_7 rfl rfl ?_
  refine Gs_getR p39_8 (by first | rfl | assumption | exact (show isTale _ from by assumption).1 | exact (show isCamp _ _ from by assumption).1 | exact (show isRow _ _ from by assumption).1) (by rfl) ?_
  refine Gs_callV0W p39_11 (by rfl) (by rfl) (by rfl) (Nat.le_of_ble_eq_true rfl) (by decide) (c_clear row82) (by omega) ?_
  refine Gs_aload_n p39_14 rfl rfl ?_
  refine Gs_getR p39_15 (by first | rfl | assumption | exact (show isTale _ from by assumption).1 | exact (show isCamp _ _ from by assumption).1 | exact (show isRow _ _ from by assumption).1) (by rfl) ?_
  refine Gs_callV0W p39_18 (by rfl) (by rfl) (by rfl) (Nat.le_of_ble_eq_true rfl) (by decide) (c_clear row84) (by omega) ?_
  refine Gs_aload_n p39_21 rfl rfl ?_
  refine Gs_getR p39_22 (by first | rfl | assumption | exact (show isTale _ from by assumption).1 | exact (show isCamp _ _ from by assumption).1 | exact (show isRow _ _ from by assumption).1) (by rfl) ?_
  refine Gs_callV0W p39_25 (by rfl) (by rfl) (by rfl) (Nat.le_of_ble_eq_true rfl) (by decide) (c_clear row88) (by omega) ?_
  refine Gs_aload_n p39_28 rfl rfl ?_
  refine Gs_getR p39_29 (by first | rfl | assumption | exact (show isTale _ from by assumption).1 | exact (show isCamp _ _ from by assumption).1 | exact (show isRow _ _ from by assumption).1) (by rfl) ?_
  refine Gs_iconst p39_32 ?_
  refine Gs_callV1W p39_33 (by rfl) (by rfl) (by rfl) (Nat.le_of_ble_eq_true rfl) (by decide) (c_afill (a := 87) row86 rfl) (by omega) ?_
  refine Gs_aload_n p39_36 rfl rfl ?_
  refine Gs_iload_n p39_37 rfl rfl ?_
  refine Gs_iload_n p39_38 rfl rfl ?_
  refine Gs_bipush p39_39 (by decide) ?_
  refine Gs_bipush p39_41 (by decide) ?_
  refine Gs_callV4v p39_43 (by rfl) (by rfl) (by rfl) (Nat.le_of_ble_eq_true rfl) (by decide) (c_reach (s := s) o0 a0 (by omega) b0 (by omega) (by show (0 : Int) ≤ 0; omega) (fun _ => by show (0 : Int) < 81; omega) (Or.inl rfl)) (by omega) (fun s43 h43 => ?_)
  refine Gs_iconst p39_46 ?_
  refine Gs_ist3 p39_47 (by first | rfl | assumption) ?_
  refine dn (n := (81 : Int)) (P := fun i => ∀ (u : St) (B : BS) (b4 b5 b6 : Option Value), KB s u B → BI L B → i ≤ B.1 → bfs (cfI s 5) (81 - i).toNat i B = R → Gs X d 39 48 [some (.ref 79), some (.int (iI a)), some (.int (iI b)), some (.int (iI i)), b4, b5, b6] [] (u) (fun vv yy => ∃ zz : Int, vv = some (.int (iI zz)) ∧ (PostK s R) zz yy)) (by omega) (fun i hi hin ih => ?_) ?_ _ (B0 (a * 9 + b)) none none none h43 bi0 (by rw [B0_eq]; show (0 : Int) ≤ 1; omega) hR
  · show ∀ (u : St) (B : BS) (b4 b5 b6 : Option Value), KB s u B → BI L B → i ≤ B.1 → bfs (cfI s 5) (81 - i).toNat i B = R → Gs X d 39 48 [some (.ref 79), some (.int (iI a)), some (.int (iI b)), some (.int (iI i)), b4, b5, b6] [] (u) _
    intro u B b4 b5 b6 o hI hle e
    have hM := hI.le
    rw [show (81 - i).toNat = (81 - (i + 1)).toNat + 1 by omega, bfs_s] at e
    have z80 := o.2.1
    refine Gs_iload_n p39_48 rfl rfl ?_
    refine Gs_bipush p39_49 (by decide) ?_
    refine Gs_icmp_ge (tgt := 154) p39_51 (by rfl) (by first | assumption | exact ⟨by omega, by omega⟩ | (split <;> exact ⟨by omega, by omega⟩)) (by first | assumption | exact ⟨by omega, by omega⟩ | (split <;> exact ⟨by omega, by omega⟩)) (fun hc51 => absurd ‹_› (by first | omega | assumption)) (fun hc51 => ?_)
    refine Gs_iload_n p39_54 rfl rfl ?_
    refine Gs_aload_n p39_55 rfl rfl ?_
    refine Gs_getR p39_56 (by first | rfl | assumption | exact (show isTale _ from by assumption).1 | exact (show isCamp _ _ from by assumption).1 | exact (show isRow _ _ from by assumption).1) (by rfl) ?_
    refine Gs_callV0I p39_59 (by rfl) (by rfl) (by rfl) (Nat.le_of_ble_eq_true rfl) (by decide) (c_size row80) (by omega) ?_
    rw [z80]
    refine Gs_icmp_ge (tgt := 154) p39_62 (by rfl) (by first | assumption | exact ⟨by omega, by omega⟩ | (split <;> exact ⟨by omega, by omega⟩)) (by first | assumption | exact ⟨by omega, by omega⟩ | (split <;> exact ⟨by omega, by omega⟩)) (fun h62 => ?_) (fun h62 => ?_)
    · refine Gs_bipush p39_154 (by decide) ?_
      refine Gs_iret p39_156 rfl ⟨_, rfl, ?_⟩
      rw [if_neg (by omega)] at e
      subst e
      exact ⟨rfl, o.1⟩
    · have hlt : i < B.1 := by omega
      have c8 := (o.2.2.2.2.2.2.1 i hi hlt).1
      have pb := hI.2.2.2.1 i hi hlt
      refine Gs_aload_n p39_65 rfl rfl ?_
      refine Gs_getR p39_66 (by first | rfl | assumption | exact (show isTale _ from by assumption).1 | exact (show isCamp _ _ from by assumption).1 | exact (show isRow _ _ from by assumption).1) (by rfl) ?_
      refine Gs_iload_n p39_69 rfl rfl ?_
      refine Gs_callV1I p39_70 (by rfl) (by rfl) (by rfl) (Nat.le_of_ble_eq_true rfl) (by decide) (c_agot (a := 81) row80 rfl ⟨by omega, by omega⟩ (by omega) (by omega) (by omega) (by omega)) (by omega) ?_
      rw [c8]
      refine Gs_bipush p39_73 (by decide) ?_
      refine Gs_idiv p39_75 (by omega) (by omega) (by omega) (by omega) ?_
      refine Gs_ist4 p39_76 (by first | rfl | assumption) ?_
      refine Gs_aload_n p39_78 rfl rfl ?_
      refine Gs_getR p39_79 (by first | rfl | assumption | exact (show isTale _ from by assumption).1 | exact (show isCamp _ _ from by assumption).1 | exact (show isRow _ _ from by assumption).1) (by rfl) ?_
      refine Gs_iload_n p39_82 rfl rfl ?_
      refine Gs_callV1I p39_83 (by rfl) (by rfl) (by rfl) (Nat.le_of_ble_eq_true rfl) (by decide) (c_agot (a := 81) row80 rfl ⟨by omega, by omega⟩ (by omega) (by omega) (by omega) (by omega)) (by omega) ?_
      rw [c8]
      refine Gs_bipush p39_86 (by decide) ?_
      refine Gs_irem p39_88 (by omega) (by omega) (by omega) (by omega) ?_
      refine Gs_ist5 p39_89 (by first | rfl | assumption) ?_
      refine Gs_iload p39_91 rfl rfl ?_
      refine Gs_iload p39_93 rfl rfl ?_
      refine Gs_icmp_ne (tgt := 104) p39_95 (by rfl) (by first | assumption | exact ⟨by omega, by omega⟩ | (split <;> exact ⟨by omega, by omega⟩)) (by first | assumption | exact ⟨by omega, by omega⟩ | (split <;> exact ⟨by omega, by omega⟩)) (fun h95 => ?_) (fun h95 => ?_)
      · rw [if_pos hlt, if_neg (by omega)] at e
        refine Gs_iconst p39_104 ?_
        refine Gs_ist6 p39_105 (by first | rfl | assumption) ?_
        refine dn (n := (4 : Int)) (P := fun j => ∀ y, KB s y (wdB (cfI s 5) (B.2.1 i) i B j.toNat) → Gs X d 39 107 [some (.ref 79), some (.int (iI a)), some (.int (iI b)), some (.int (iI i)), some (.int (iI (B.2.1 i / 9))), some (.int (iI (B.2.1 i % 9))), some (.int (iI j))] [] (y) (fun vv yy => ∃ zz : Int, vv = some (.int (iI zz)) ∧ (PostK s R) zz yy)) (by omega) (fun j hj hjn ih2 => ?_) ?_ _ o
        · show ∀ y, KB s y (wdB (cfI s 5) (B.2.1 i) i B j.toNat) → Gs X d 39 107 [some (.ref 79), some (.int (iI a)), some (.int (iI b)), some (.int (iI i)), some (.int (iI (B.2.1 i / 9))), some (.int (iI (B.2.1 i % 9))), some (.int (iI j))] [] (y) _
          intro y o2
          obtain ⟨t1, t2⟩ := o2.1.tale hT
          obtain ⟨w1, w2, w3⟩ := hI.wd hL hcl hi hlt j.toNat (by omega)
          have c1 := hcl (B.2.1 i / 9) j (by omega) pb.2.1 hj hjn
          have c2 := hcl (B.2.1 i % 9) j (by omega) pb.2.2.1 hj hjn
          refine Gs_iload p39_107 rfl rfl ?_
          refine Gs_iconst p39_109 ?_
          refine Gs_icmp_ge (tgt := 148) p39_110 (by rfl) (by first | assumption | exact ⟨by omega, by omega⟩ | (split <;> exact ⟨by omega, by omega⟩)) (by first | assumption | exact ⟨by omega, by omega⟩ | (split <;> exact ⟨by omega, by omega⟩)) (fun hc110 => absurd ‹_› (by first | omega | assumption)) (fun hc110 => ?_)
          refine Gs_aload_n p39_113 rfl rfl ?_
          refine Gs_aload_n p39_114 rfl rfl ?_
          refine Gs_getR p39_115 (by first | rfl | assumption | exact (show isTale _ from by assumption).1 | exact (show isCamp _ _ from by assumption).1 | exact (show isRow _ _ from by assumption).1) (by rfl) ?_
          refine Gs_iload p39_118 rfl rfl ?_
          refine Gs_iload p39_120 rfl rfl ?_
          refine Gs_callV2I p39_122 (by rfl) (by rfl) (by rfl) (Nat.le_of_ble_eq_true rfl) (by decide) (c_comingFrom tale5 t1 ⟨by omega, by omega⟩ ⟨by omega, by omega⟩) (by omega) ?_
          rw [t2]
          refine Gs_aload_n p39_125 rfl rfl ?_
          refine Gs_getR p39_126 (by first | rfl | assumption | exact (show isTale _ from by assumption).1 | exact (show isCamp _ _ from by assumption).1 | exact (show isRow _ _ from by assumption).1) (by rfl) ?_
          refine Gs_iload p39_129 rfl rfl ?_
          refine Gs_iload p39_131 rfl rfl ?_
          refine Gs_callV2I p39_133 (by rfl) (by rfl) (by rfl) (Nat.le_of_ble_eq_true rfl) (by decide) (c_comingFrom tale5 t1 ⟨by omega, by omega⟩ ⟨by omega, by omega⟩) (by omega) ?_
          rw [t2]
          refine Gs_iload_n p39_136 rfl rfl ?_
          refine Gs_iload p39_137 rfl rfl ?_
          refine Gs_callV4v p39_139 (by rfl) (by rfl) (by rfl) (Nat.le_of_ble_eq_true rfl) (by decide) (c_reach (s := s) o2 c1.1 (by omega) c2.1 (by omega) (by omega) (fun q => w1.lt (by omega) (by omega) q) (w1.2.2.1 _)) (by omega) (fun s139 h139 => ?_)
          refine Gs_iinc6 (b56 := none) p39_142 (by first | rfl | assumption) ?_
          refine Gs_goto (tgt := 107) p39_145 (by rfl) ?_
          exact ih2 _ (by rw [wdB_s hj]; exact h139)
        · show ∀ y, KB s y (wdB (cfI s 5) (B.2.1 i) i B ((4 : Int)).toNat) → Gs X d 39 107 [some (.ref 79), some (.int (iI a)), some (.int (iI b)), some (.int (iI i)), some (.int (iI (B.2.1 i / 9))), some (.int (iI (B.2.1 i % 9))), some (.int (iI ((4 : Int))))] [] (y) _
          intro y o2
          obtain ⟨w1, w2, w3⟩ := hI.wd hL hcl hi hlt 4 (by omega)
          refine Gs_iload p39_107 rfl rfl ?_
          refine Gs_iconst p39_109 ?_
          refine Gs_icmp_ge (tgt := 148) p39_110 (by rfl) (by first | assumption | exact ⟨by omega, by omega⟩ | (split <;> exact ⟨by omega, by omega⟩)) (by first | assumption | exact ⟨by omega, by omega⟩ | (split <;> exact ⟨by omega, by omega⟩)) (fun hc110 => ?_) (fun hc110 => absurd ‹_› (by first | omega | assumption))
          refine Gs_iinc3 (b53 := none) p39_148 (by first | rfl | assumption) ?_
          refine Gs_goto (tgt := 48) p39_151 (by rfl) ?_
          exact ih y _ _ _ _ o2 w1 (show i + 1 ≤ (wdB (cfI s 5) (B.2.1 i) i B 4).1 by omega) e
      · rw [if_pos hlt, if_pos (by omega)] at e
        subst e
        obtain ⟨n, n1, n2⟩ := pth_ex (fun j a b => ⟨(hI.2.2.2.2.2.2 j a b).1, (hI.2.2.2.2.2.2 j a b).2.1⟩) i.toNat i hi hlt (by omega)
        refine Gs_aload_n p39_98 rfl rfl ?_
        refine Gs_iload_n p39_99 rfl rfl ?_
        refine Gs_callV1i p39_100 (by rfl) (by rfl) (by rfl) (Nat.le_of_ble_eq_true rfl) (by decide) (c_traceBack (s := s) o hI hi hlt n2 (by omega)) (by omega) (fun z100 s100 h100 => ?_)
        refine Gs_iret p39_103 rfl ⟨_, rfl, ?_⟩
        obtain ⟨q1, q2, q3, q4⟩ := h100
        exact ⟨n, q1, by omega, n2, q2, q3, q4⟩
  · show ∀ (u : St) (B : BS) (b4 b5 b6 : Option Value), KB s u B → BI L B → ((81 : Int)) ≤ B.1 → bfs (cfI s 5) (81 - ((81 : Int))).toNat ((81 : Int)) B = R → Gs X d 39 48 [some (.ref 79), some (.int (iI a)), some (.int (iI b)), some (.int (iI ((81 : Int)))), b4, b5, b6] [] (u) _
    intro u B b4 b5 b6 o hI hle e
    refine Gs_iload_n p39_48 rfl rfl ?_
    refine Gs_bipush p39_49 (by decide) ?_
    refine Gs_icmp_ge (tgt := 154) p39_51 (by rfl) (by first | assumption | exact ⟨by omega, by omega⟩ | (split <;> exact ⟨by omega, by omega⟩)) (by first | assumption | exact ⟨by omega, by omega⟩ | (split <;> exact ⟨by omega, by omega⟩)) (fun hc51 => ?_) (fun hc51 => absurd ‹_› (by first | omega | assumption))
    refine Gs_bipush p39_154 (by decide) ?_
    refine Gs_iret p39_156 rfl ⟨_, rfl, ?_⟩
    have e : none = R := e
    subst e
    exact ⟨rfl, o.1⟩

set_option maxHeartbeats 1000000 in
set_option maxRecDepth 4000 in
theorem c_woodAt {X : vX} {s : St} {k : Int} (gk : rg k) (k0 : 0 ≤ k) (b0 : 0 ≤ vF s 88 1) (b1 : vF s 88 1 ≤ 80) : OkI X 1 40 [.ref 79, .int (iI k)] s (Is1 (if k < vF s 88 1 then vA s 89 (vF s 88 1 - 1 - k) else -4) s) := by
  refine Ok.of (r := vm_m40) (ls := [some (.ref 79), some (.int (iI k))]) rfl (Nat.le_of_ble_eq_true rfl) rfl (fun d hd => ?_)
  refine Gs_iload_n p40_0 rfl rfl ?_
  refine Gs_aload_n p40_1 rfl rfl ?_
  refine Gs_getR p40_2 (by first | rfl | assumption | exact (show isTale _ from by assumption).1 | exact (show isCamp _ _ from by assumption).1 | exact (show isRow _ _ from by assumption).1) (by rfl) ?_
  refine Gs_callV0I p40_5 (by rfl) (by rfl) (by rfl) (Nat.le_of_ble_eq_true rfl) (by decide) (c_size row88) (by omega) ?_
  refine Gs_icmp_ge (tgt := 32) p40_8 (by rfl) (by first | assumption | exact ⟨by omega, by omega⟩ | (split <;> exact ⟨by omega, by omega⟩)) (by first | assumption | exact ⟨by omega, by omega⟩ | (split <;> exact ⟨by omega, by omega⟩)) (fun h8 => ?_) (fun h8 => ?_)
  · refine Gs_bipush p40_32 (by decide) ?_
    refine Gs_iret p40_34 rfl ⟨_, rfl, ?_⟩
    first
      | (rw [if_pos (by omega)]; exact ⟨rfl, rfl⟩)
      | (rw [if_neg (by omega)]; exact ⟨rfl, rfl⟩)
  · refine Gs_aload_n p40_11 rfl rfl ?_
    refine Gs_getR p40_12 (by first | rfl | assumption | exact (show isTale _ from by assumption).1 | exact (show isCamp _ _ from by assumption).1 | exact (show isRow _ _ from by assumption).1) (by rfl) ?_
    refine Gs_aload_n p40_15 rfl rfl ?_
    refine Gs_getR p40_16 (by first | rfl | assumption | exact (show isTale _ from by assumption).1 | exact (show isCamp _ _ from by assumption).1 | exact (show isRow _ _ from by assumption).1) (by rfl) ?_
    refine Gs_callV0I p40_19 (by rfl) (by rfl) (by rfl) (Nat.le_of_ble_eq_true rfl) (by decide) (c_size row88) (by omega) ?_
    refine Gs_iconst p40_22 ?_
    refine Gs_isub p40_23 ?_
    refine Gs_iload_n p40_24 rfl rfl ?_
    refine Gs_isub p40_25 ?_
    refine Gs_callV1I p40_26 (by rfl) (by rfl) (by rfl) (Nat.le_of_ble_eq_true rfl) (by decide) (c_agot (a := 89) row88 rfl ⟨by omega, by omega⟩ (by omega) (by omega) (by omega) (by omega)) (by omega) ?_
    refine Gs_goto (tgt := 34) p40_29 (by rfl) ?_
    refine Gs_iret p40_34 rfl ⟨_, rfl, ?_⟩
    first
      | (rw [if_pos (by omega)]; exact ⟨rfl, rfl⟩)
      | (rw [if_neg (by omega)]; exact ⟨rfl, rfl⟩)

set_option maxHeartbeats 1000000 in
set_option maxRecDepth 4000 in
theorem k_meet {X : vX} {s : St} {L a b k n : Int} (hT : TaleOk s 5) (hL : L ≤ 9) (hcl : ∀ l w, 0 ≤ l → l < L → 0 ≤ w → w < 4 → 0 ≤ cfI s 5 l w ∧ cfI s 5 l w < L) (hC : CampOk s 14 n) (gk : rg k) (hv : ((0 ≤ a ∧ a < n) ∧ (0 ≤ b ∧ b < n) ∧ a ≠ b)) (hk : -1 ≤ k) (c1 : 1 ≤ cg s 14 a 0) (c2 : 1 ≤ cg s 14 b 0) (la : 0 ≤ cg s 14 a 1 ∧ cg s 14 a 1 < L) (lb : 0 ≤ cg s 14 b 1 ∧ cg s 14 b 1 < L) : OkI X 6 109 [.ref 0, .int (iI a), .int (iI b), .int (iI k)] s (fun z t => ansR (bfs (cfI s 5) 81 0 (B0 (cg s 14 a 1 * 9 + cg s 14 b 1))) k z ∧ KFr s t) := by
  refine Ok.of (r := vm_m109) (ls := [some (.ref 0), some (.int (iI a)), some (.int (iI b)), some (.int (iI k)), none]) rfl (Nat.le_of_ble_eq_true rfl) rfl (fun d hd => ?_)
  obtain ⟨⟨a0, a1⟩, ⟨b0, b1⟩, hab⟩ := id hv
  have n4 := hC.2.1
  refine Gs_aload_n p109_0 rfl rfl ?_
  refine Gs_iload_n p109_1 rfl rfl ?_
  refine Gs_iload_n p109_2 rfl rfl ?_
  refine Gs_callV2I p109_3 (by rfl) (by rfl) (by first | rfl | assumption | exact (show isTale _ from by assumption).1 | exact (show isCamp _ _ from by assumption).1 | exact (show isRow _ _ from by assumption).1) (Nat.le_of_ble_eq_true rfl) (by decide) (c_areTwo hC ⟨by omega, by omega⟩ ⟨by omega, by omega⟩) (by omega) ?_
  refine Gs_ifb_eq (tgt := 14) p109_6 (by rfl) (fun h6 => ?_) (fun h6 => ?_)
  · refine Gs_iconst p109_14 ?_
    refine Gs_iret p109_15 rfl ⟨_, rfl, ?_⟩
    exfalso; omega
  · refine Gs_iload_n p109_9 rfl rfl ?_
    refine Gs_iconst p109_10 ?_
    refine Gs_icmp_ge (tgt := 16) p109_11 (by rfl) (by first | assumption | exact ⟨by omega, by omega⟩ | (split <;> exact ⟨by omega, by omega⟩)) (by first | assumption | exact ⟨by omega, by omega⟩ | (split <;> exact ⟨by omega, by omega⟩)) (fun h11 => ?_) (fun h11 => ?_)
    · refine Gs_aload_n p109_16 rfl rfl ?_
      refine Gs_getR p109_17 (by first | rfl | assumption | exact (show isTale _ from by assumption).1 | exact (show isCamp _ _ from by assumption).1 | exact (show isRow _ _ from by assumption).1) (by rfl) ?_
      refine Gs_iload_n p109_20 rfl rfl ?_
      refine Gs_callV1I p109_21 (by rfl) (by rfl) (by first | rfl | assumption | exact (show isTale _ from by assumption).1 | exact (show isCamp _ _ from by assumption).1 | exact (show isRow _ _ from by assumption).1) (Nat.le_of_ble_eq_true rfl) (by decide) (c_isIn camp14 hC a0 a1) (by omega) ?_
      refine Gs_ifb_eq (tgt := 38) p109_24 (by rfl) (fun h24 => ?_) (fun h24 => ?_)
      · refine Gs_bipush p109_38 (by decide) ?_
        refine Gs_iret p109_40 rfl ⟨_, rfl, ?_⟩
        exfalso; omega
      · refine Gs_aload_n p109_27 rfl rfl ?_
        refine Gs_getR p109_28 (by first | rfl | assumption | exact (show isTale _ from by assumption).1 | exact (show isCamp _ _ from by assumption).1 | exact (show isRow _ _ from by assumption).1) (by rfl) ?_
        refine Gs_iload_n p109_31 rfl rfl ?_
        refine Gs_callV1I p109_32 (by rfl) (by rfl) (by first | rfl | assumption | exact (show isTale _ from by assumption).1 | exact (show isCamp _ _ from by assumption).1 | exact (show isRow _ _ from by assumption).1) (Nat.le_of_ble_eq_true rfl) (by decide) (c_isIn camp14 hC b0 b1) (by omega) ?_
        refine Gs_ifb_ne (tgt := 41) p109_35 (by rfl) (fun h35 => ?_) (fun h35 => ?_)
        · refine Gs_aload_n p109_41 rfl rfl ?_
          refine Gs_getR p109_42 (by first | rfl | assumption | exact (show isTale _ from by assumption).1 | exact (show isCamp _ _ from by assumption).1 | exact (show isRow _ _ from by assumption).1) (by rfl) ?_
          refine Gs_aload_n p109_45 rfl rfl ?_
          refine Gs_getR p109_46 (by first | rfl | assumption | exact (show isTale _ from by assumption).1 | exact (show isCamp _ _ from by assumption).1 | exact (show isRow _ _ from by assumption).1) (by rfl) ?_
          refine Gs_iload_n p109_49 rfl rfl ?_
          refine Gs_iconst p109_50 ?_
          refine Gs_callV2I p109_51 (by rfl) (by rfl) (by first | rfl | assumption | exact (show isTale _ from by assumption).1 | exact (show isCamp _ _ from by assumption).1 | exact (show isRow _ _ from by assumption).1) (Nat.le_of_ble_eq_true rfl) (by decide) (c_Cget camp14 hC a0 a1 (by omega) (by omega)) (by omega) ?_
          refine Gs_aload_n p109_54 rfl rfl ?_
          refine Gs_getR p109_55 (by first | rfl | assumption | exact (show isTale _ from by assumption).1 | exact (show isCamp _ _ from by assumption).1 | exact (show isRow _ _ from by assumption).1) (by rfl) ?_
          refine Gs_iload_n p109_58 rfl rfl ?_
          refine Gs_iconst p109_59 ?_
          refine Gs_callV2I p109_60 (by rfl) (by rfl) (by first | rfl | assumption | exact (show isTale _ from by assumption).1 | exact (show isCamp _ _ from by assumption).1 | exact (show isRow _ _ from by assumption).1) (Nat.le_of_ble_eq_true rfl) (by decide) (c_Cget camp14 hC b0 b1 (by omega) (by omega)) (by omega) ?_
          refine Gs_callV2i p109_63 (by rfl) (by rfl) (by rfl) (Nat.le_of_ble_eq_true rfl) (by decide) (c_shortest hT hL hcl la.1 la.2 lb.1 lb.2) (by omega) (fun z63 s63 h63 => ?_)
          have bz := h63.b
          refine Gs_ist4 p109_66 (by first | rfl | assumption) ?_
          refine Gs_iload_n p109_68 rfl rfl ?_
          refine Gs_iconst p109_69 ?_
          refine Gs_icmp_eq (tgt := 80) p109_70 (by rfl) (by first | assumption | exact ⟨by omega, by omega⟩ | (split <;> exact ⟨by omega, by omega⟩)) (by first | assumption | exact ⟨by omega, by omega⟩ | (split <;> exact ⟨by omega, by omega⟩)) (fun h70 => ?_) (fun h70 => ?_)
          · refine Gs_iload p109_80 rfl rfl ?_
            refine Gs_goto (tgt := 93) p109_82 (by rfl) ?_
            refine Gs_iret p109_93 rfl ⟨_, rfl, ?_⟩
            first
              | exact ⟨h63.a1 (by omega), h63.fr⟩
              | exact ⟨(h63.a2 (show 0 ≤ k by omega) (by omega)).2.2, h63.fr⟩
          · refine Gs_iload p109_73 rfl rfl ?_
            refine Gs_bipush p109_75 (by decide) ?_
            refine Gs_icmp_ne (tgt := 85) p109_77 (by rfl) (by first | assumption | exact ⟨by omega, by omega⟩ | (split <;> exact ⟨by omega, by omega⟩)) (by first | assumption | exact ⟨by omega, by omega⟩ | (split <;> exact ⟨by omega, by omega⟩)) (fun h77 => ?_) (fun h77 => ?_)
            · refine Gs_aload_n p109_85 rfl rfl ?_
              refine Gs_getR p109_86 (by first | rfl | assumption | exact (show isTale _ from by assumption).1 | exact (show isCamp _ _ from by assumption).1 | exact (show isRow _ _ from by assumption).1) (by rfl) ?_
              refine Gs_iload_n p109_89 rfl rfl ?_
              refine Gs_callV1I p109_90 (by rfl) (by rfl) (by rfl) (Nat.le_of_ble_eq_true rfl) (by decide) (c_woodAt gk (by omega) (h63.a2 (show 0 ≤ k by omega) (by omega)).1 (h63.a2 (show 0 ≤ k by omega) (by omega)).2.1) (by omega) ?_
              refine Gs_iret p109_93 rfl ⟨_, rfl, ?_⟩
              first
                | exact ⟨h63.a1 (by omega), h63.fr⟩
                | exact ⟨(h63.a2 (show 0 ≤ k by omega) (by omega)).2.2, h63.fr⟩
            · refine Gs_iload p109_80 rfl rfl ?_
              refine Gs_goto (tgt := 93) p109_82 (by rfl) ?_
              refine Gs_iret p109_93 rfl ⟨_, rfl, ?_⟩
              first
                | exact ⟨h63.a1 (by omega), h63.fr⟩
                | exact ⟨(h63.a2 (show 0 ≤ k by omega) (by omega)).2.2, h63.fr⟩
        · refine Gs_bipush p109_38 (by decide) ?_
          refine Gs_iret p109_40 rfl ⟨_, rfl, ?_⟩
          exfalso; omega
    · refine Gs_iconst p109_14 ?_
      refine Gs_iret p109_15 rfl ⟨_, rfl, ?_⟩
      exfalso; omega

set_option maxHeartbeats 1000000 in
set_option maxRecDepth 4000 in
theorem k_meet_no {X : vX} {s : St} {a b k n : Int} (hC : CampOk s 14 n) (ga : rg a) (gb : rg b) (gk : rg k) (hno : ¬ ((((0 ≤ a ∧ a < n) ∧ (0 ≤ b ∧ b < n) ∧ a ≠ b) ∧ -1 ≤ k) ∧ (1 ≤ cg s 14 a 0 ∧ 1 ≤ cg s 14 b 0))) : OkI X 6 109 [.ref 0, .int (iI a), .int (iI b), .int (iI k)] s (Is1 (if ((0 ≤ a ∧ a < n) ∧ (0 ≤ b ∧ b < n) ∧ a ≠ b) ∧ -1 ≤ k then -2 else -1) s) := by
  refine Ok.of (r := vm_m109) (ls := [some (.ref 0), some (.int (iI a)), some (.int (iI b)), some (.int (iI k)), none]) rfl (Nat.le_of_ble_eq_true rfl) rfl (fun d hd => ?_)
  refine Gs_aload_n p109_0 rfl rfl ?_
  refine Gs_iload_n p109_1 rfl rfl ?_
  refine Gs_iload_n p109_2 rfl rfl ?_
  refine Gs_callV2I p109_3 (by rfl) (by rfl) (by first | rfl | assumption | exact (show isTale _ from by assumption).1 | exact (show isCamp _ _ from by assumption).1 | exact (show isRow _ _ from by assumption).1) (Nat.le_of_ble_eq_true rfl) (by decide) (c_areTwo hC ga gb) (by omega) ?_
  refine Gs_ifb_eq (tgt := 14) p109_6 (by rfl) (fun h6 => ?_) (fun h6 => ?_)
  · refine Gs_iconst p109_14 ?_
    refine Gs_iret p109_15 rfl ⟨_, rfl, ?_⟩
    refine ⟨?_, rfl⟩
    first | (rw [if_neg (by omega)]; done) | (rw [if_pos (by omega)]; done)
  · refine Gs_iload_n p109_9 rfl rfl ?_
    refine Gs_iconst p109_10 ?_
    refine Gs_icmp_ge (tgt := 16) p109_11 (by rfl) (by first | assumption | exact ⟨by omega, by omega⟩ | (split <;> exact ⟨by omega, by omega⟩)) (by first | assumption | exact ⟨by omega, by omega⟩ | (split <;> exact ⟨by omega, by omega⟩)) (fun h11 => ?_) (fun h11 => ?_)
    · refine Gs_aload_n p109_16 rfl rfl ?_
      refine Gs_getR p109_17 (by first | rfl | assumption | exact (show isTale _ from by assumption).1 | exact (show isCamp _ _ from by assumption).1 | exact (show isRow _ _ from by assumption).1) (by rfl) ?_
      refine Gs_iload_n p109_20 rfl rfl ?_
      refine Gs_callV1I p109_21 (by rfl) (by rfl) (by first | rfl | assumption | exact (show isTale _ from by assumption).1 | exact (show isCamp _ _ from by assumption).1 | exact (show isRow _ _ from by assumption).1) (Nat.le_of_ble_eq_true rfl) (by decide) (c_isIn camp14 hC (by omega) (by omega)) (by omega) ?_
      refine Gs_ifb_eq (tgt := 38) p109_24 (by rfl) (fun h24 => ?_) (fun h24 => ?_)
      · refine Gs_bipush p109_38 (by decide) ?_
        refine Gs_iret p109_40 rfl ⟨_, rfl, ?_⟩
        refine ⟨?_, rfl⟩
        first | (rw [if_neg (by omega)]; done) | (rw [if_pos (by omega)]; done)
      · refine Gs_aload_n p109_27 rfl rfl ?_
        refine Gs_getR p109_28 (by first | rfl | assumption | exact (show isTale _ from by assumption).1 | exact (show isCamp _ _ from by assumption).1 | exact (show isRow _ _ from by assumption).1) (by rfl) ?_
        refine Gs_iload_n p109_31 rfl rfl ?_
        refine Gs_callV1I p109_32 (by rfl) (by rfl) (by first | rfl | assumption | exact (show isTale _ from by assumption).1 | exact (show isCamp _ _ from by assumption).1 | exact (show isRow _ _ from by assumption).1) (Nat.le_of_ble_eq_true rfl) (by decide) (c_isIn camp14 hC (by omega) (by omega)) (by omega) ?_
        refine Gs_ifb_ne (tgt := 41) p109_35 (by rfl) (fun h35 => ?_) (fun h35 => ?_)
        · exfalso; omega
        · refine Gs_bipush p109_38 (by decide) ?_
          refine Gs_iret p109_40 rfl ⟨_, rfl, ?_⟩
          refine ⟨?_, rfl⟩
          first | (rw [if_neg (by omega)]; done) | (rw [if_pos (by omega)]; done)
    · refine Gs_iconst p109_14 ?_
      refine Gs_iret p109_15 rfl ⟨_, rfl, ?_⟩
      refine ⟨?_, rfl⟩
      first | (rw [if_neg (by omega)]; done) | (rw [if_pos (by omega)]; done)
