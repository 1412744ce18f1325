/-! meet, the reference's side -/
theorem isA107 : isA 107 81 := rfl
theorem isA108 : isA 108 81 := rfl
theorem isA109 : isA 109 81 := rfl
theorem isA110 : isA 110 81 := rfl
def MFr (s u : St) : Prop := (∀ a z, a < 104 → vA u a z = vA s a z) ∧ (∀ a k, vF u a k = vF s a k)
def MB (s u : St) (B : BS) : Prop := MFr s u ∧ (∀ j, 0 ≤ j → j < B.1 → vA u 107 j = B.2.1 j) ∧ (∀ p, 0 ≤ p → p < 81 → B.2.2.2.2 p = 0 → vA u 109 p = -4) ∧ (∀ j, 0 ≤ j → j < B.1 → vA u 109 (B.2.1 j) = if j = 0 then -1 else B.2.1 (B.2.2.1 j)) ∧ (∀ j, 0 < j → j < B.1 → vA u 108 (B.2.1 j) = B.2.2.2.1 j)
theorem MB.nf {s u : St} {L : Int} {B : BS} (o : MB s u B) (h : BI L B) {q : Int} (q0 : 0 ≤ q) (q1 : q < 81) : vA u 109 q = -4 ↔ B.2.2.2.2 q = 0 := by
  refine ⟨fun e => ?_, fun e => o.2.2.1 q q0 q1 e⟩
  rcases h.2.2.1 q with c | c
  · exact c
  · obtain ⟨j, j0, j1, j2⟩ := h.2.2.2.2.2.1 q q0 q1 c
    have w := o.2.2.2.1 j j0 j1
    rw [j2] at w
    rw [w] at e
    split at e
    · omega
    · have a := h.2.2.2.2.2.2 j (by omega) j1
      have p := h.2.2.2.1 (B.2.2.1 j) a.1 (by omega)
      omega
theorem MB.rg {s u : St} {L : Int} {B : BS} (o : MB s u B) (h : BI L B) (hL : L ≤ 9) {q : Int} (q0 : 0 ≤ q) (q1 : q < 81) : -4 ≤ vA u 109 q ∧ vA u 109 q < 81 := by
  rcases h.2.2.1 q with c | c
  · rw [o.2.2.1 q q0 q1 c]; omega
  · obtain ⟨j, j0, j1, j2⟩ := h.2.2.2.2.2.1 q q0 q1 c
    have w := o.2.2.2.1 j j0 j1
    rw [j2] at w
    rw [w]
    split
    · omega
    · have a := h.2.2.2.2.2.2 j (by omega) j1
      have p := h.2.2.2.1 (B.2.2.1 j) a.1 (by omega)
      omega
theorem MB.re {s u : St} {L : Int} {B : BS} (o : MB s u B) (h : BI L B) {q k w : Int} (k0 : 0 ≤ k) (k1 : k < B.1) (hq : B.2.2.2.2 q = 0) : MB s (sA (sA (sA u 109 q (B.2.1 k)) 108 q w) 107 B.1 q) (reB B q k w) ∧ (reB B q k w).1 = B.1 + 1 := by
  obtain ⟨⟨o1, o2⟩, o3, o4, o5, o6⟩ := o
  have e : reB B q k w = (B.1 + 1, up1 B.2.1 B.1 q, up1 B.2.2.1 B.1 k, up1 B.2.2.2.1 B.1 w, up1 B.2.2.2.2 q 1) := if_pos hq
  have ne : ∀ j, 0 ≤ j → j < B.1 → ¬ B.2.1 j = q := fun j a b e => by
    have := (h.2.2.2.1 j a b).2.2.2
    rw [e] at this; omega
  rw [e]
  refine ⟨⟨⟨fun a z ha => ?_, fun a k => o2 a k⟩, fun j j0 j1 => ?_, fun p p0 p1 hp => ?_, fun j j0 j1 => ?_, fun j j0 j1 => ?_⟩, rfl⟩
  · rw [vA_sA, if_neg (by omega), vA_sA, if_neg (by omega), vA_sA, if_neg (by omega)]
    exact o1 a z ha
  · have j1 : j < B.1 + 1 := j1
    show vA _ 107 j = up1 B.2.1 B.1 q j
    rw [vA_sA, up1_at]
    by_cases ej : j = B.1
    · rw [if_pos ⟨rfl, ej⟩, if_pos ej]
    · rw [if_neg (fun r => ej r.2), if_neg ej, vA_sA, if_neg (by omega), vA_sA, if_neg (by omega)]
      exact o3 j j0 (by omega)
  · have hp : up1 B.2.2.2.2 q 1 p = 0 := hp
    rw [up1_at] at hp
    by_cases ep : p = q
    · rw [if_pos ep] at hp; omega
    · rw [if_neg ep] at hp
      rw [vA_sA, if_neg (by omega), vA_sA, if_neg (by omega), vA_sA, if_neg (fun r => ep r.2)]
      exact o4 p p0 p1 hp
  · have j1 : j < B.1 + 1 := j1
    show vA _ 109 (up1 B.2.1 B.1 q j) = if j = 0 then -1 else up1 B.2.1 B.1 q (up1 B.2.2.1 B.1 k j)
    rw [up1_at B.2.2.1]
    by_cases ej : j = B.1
    · have hj0 : ¬ j = 0 := by omega
      rw [if_pos ej, if_neg hj0, up1_at, if_pos ej, up1_at, if_neg (by omega), vA_sA, if_neg (by omega), vA_sA, if_neg (by omega), vA_sA, if_pos ⟨rfl, rfl⟩]
    · have n := ne j j0 (by omega)
      rw [if_neg ej, up1_at, if_neg ej, vA_sA, if_neg (by omega), vA_sA, if_neg (by omega), vA_sA, if_neg (fun r => n r.2), o5 j j0 (by omega)]
      by_cases hz : j = 0
      · rw [if_pos hz, if_pos hz]
      · have a := h.2.2.2.2.2.2 j (by omega) (by omega)
        rw [if_neg hz, if_neg hz, up1_at, if_neg (by omega)]
  · have j1 : j < B.1 + 1 := j1
    show vA _ 108 (up1 B.2.1 B.1 q j) = up1 B.2.2.2.1 B.1 w j
    rw [up1_at, up1_at]
    by_cases ej : j = B.1
    · rw [if_pos ej, if_pos ej, vA_sA, if_neg (by omega), vA_sA, if_pos ⟨rfl, rfl⟩]
    · have n := ne j (by omega) (by omega)
      rw [if_neg ej, if_neg ej, vA_sA, if_neg (by omega), vA_sA, if_neg (fun r => n r.2), vA_sA, if_neg (by omega)]
      exact o6 j j0 (by omega)
def PostM (s : St) (R : Option (Int × BS)) (z : Int) (t : St) : Prop := match R with
  | none => z = -4 ∧ MFr s t
  | some (e, B) => ∃ n : Nat, z = n ∧ (n : Int) ≤ 80 ∧ pthOk B.2.2.1 e n ∧ MFr s t ∧ ∀ q : Int, 0 ≤ q → q < n → vA t 110 q = B.2.2.2.1 (pth B.2.2.1 e ((n : Int) - 1 - q).toNat)
theorem PostM.b {s t : St} {R : Option (Int × BS)} {z : Int} (h : PostM s R z t) : -4 ≤ z ∧ z ≤ 80 := by
  unfold PostM at h
  split at h
  · omega
  · obtain ⟨n, h1, h2, _⟩ := h; omega
theorem PostM.fr {s t : St} {R : Option (Int × BS)} {z : Int} (h : PostM s R z t) : MFr s t := by
  unfold PostM at h
  split at h
  · exact h.2
  · obtain ⟨n, h1, h2, h3, h4, _⟩ := h; exact h4
theorem PostM.a1 {s t : St} {R : Option (Int × BS)} {z k : Int} (h : PostM s R z t) (hk : k = -1 ∨ z = -4) : ansR R k z := by
  unfold PostM at h
  unfold ansR
  split at h
  · exact h.1
  · obtain ⟨n, h1, h2, h3, _⟩ := h
    refine ⟨n, h3, ?_⟩
    rw [if_pos (by omega)]; exact h1
theorem PostM.a2 {s t : St} {R : Option (Int × BS)} {z k : Int} (h : PostM s R z t) (hk : 0 ≤ k) (hz : ¬ z = -4) : (k < z → ansR R k (vA t 110 k)) ∧ (¬ k < z → ansR R k (-4)) := by
  unfold PostM at h
  unfold ansR
  split at h
  · exact absurd h.1 hz
  · obtain ⟨n, h1, h2, h3, h4, h5⟩ := h
    refine ⟨fun c => ⟨n, h3, ?_⟩, fun c => ⟨n, h3, ?_⟩⟩
    · rw [if_neg (show ¬ k = -1 by omega), if_pos (by omega), h5 _ (by omega) (by omega)]
    · rw [if_neg (show ¬ k = -1 by omega), if_neg (by omega)]
set_option maxHeartbeats 2000000 in
set_option maxRecDepth 4000 in
theorem c_laysWay {X : vX} {s : St} {u : St} {B : BS} {L e : Int} {n : Nat} (o : MB s u B) (hI : BI L B) (hL : L ≤ 9) (e0 : 0 ≤ e) (e1 : e < B.1) (hp : pthOk B.2.2.1 e n) (hn : (n : Int) ≤ 80) : OkI X 0 185 [.ref 95, .int (iI (B.2.1 e))] u (fun z t => z = (n : Int) ∧ MFr s t ∧ ∀ q : Int, 0 ≤ q → q < n → vA t 110 q = B.2.2.2.1 (pth B.2.2.1 e ((n : Int) - 1 - q).toNat)) := by
  refine Ok.of (r := vm_m185) (ls := [some (.ref 95), some (.int (iI (B.2.1 e))), none, none, none]) rfl (Nat.le_of_ble_eq_true rfl) rfl (fun d hd => ?_)
  have hM := hI.le
  have pl := fun i hi => pth_lt (fun j a b => ⟨(hI.2.2.2.2.2.2 j a b).1, (hI.2.2.2.2.2.2 j a b).2.1⟩) e0 e1 hp i hi
  refine Gs_iconst p185_0 ?_
  refine Gs_ist2 p185_1 (by first | rfl | assumption) ?_
  refine Gs_iload_n p185_2 rfl rfl ?_
  refine Gs_ist3 p185_3 (by first | rfl | assumption) ?_
  refine dn (n := ((n : Nat) : Int)) (P := fun i => Gs X d 185 4 [some (.ref 95), some (.int (iI (B.2.1 e))), some (.int (iI i)), some (.int (iI (B.2.1 (pth B.2.2.1 e i.toNat)))), none] [] (u) (fun vv yy => ∃ zz : Int, vv = some (.int (iI zz)) ∧ (fun z t => z = (n : Int) ∧ MFr s t ∧ ∀ q : Int, 0 ≤ q → q < n → vA t 110 q = B.2.2.2.1 (pth B.2.2.1 e ((n : Int) - 1 - q).toNat)) zz yy)) (by omega) (fun i hi hin ih => ?_) ?_
  · show Gs X d 185 4 [some (.ref 95), some (.int (iI (B.2.1 e))), some (.int (iI i)), some (.int (iI (B.2.1 (pth B.2.2.1 e i.toNat)))), none] [] (u) _
    have pp := hp.2 i.toNat (by omega)
    have pb := pl i.toNat (by omega)
    have pb2 := pl (i + 1).toNat (by omega)
    have pe : pth B.2.2.1 e (i + 1).toNat = B.2.2.1 (pth B.2.2.1 e i.toNat) := by rw [show (i + 1).toNat = i.toNat + 1 by omega]; rfl
    have c1 := o.2.2.2.1 _ pb.1 pb.2
    rw [if_neg (by omega), ← pe] at c1
    have q1 := hI.2.2.2.1 _ pb.1 pb.2
    have q2 := hI.2.2.2.1 _ pb2.1 pb2.2
    refine Gs_aload_n p185_4 rfl rfl ?_
    refine Gs_getR p185_5 (by first | rfl | assumption | exact (show isTale _ from by assumption).1 | exact (show isCamp _ _ from by assumption).1 | exact (show isRow _ _ from by assumption).1) (by rfl) ?_
    refine Gs_iload_n p185_8 rfl rfl ?_
    refine Gs_iald p185_9 (by first | rfl | assumption | exact (show isTale _ from by assumption).1 | exact (show isCamp _ _ from by assumption).1 | exact (show isRow _ _ from by assumption).1) (by omega) (by omega) (by omega) ?_
    rw [c1]
    refine Gs_iconst p185_10 ?_
    refine Gs_icmp_eq (tgt := 27) p185_11 (by rfl) (by first | assumption | exact ⟨by omega, by omega⟩ | (split <;> exact ⟨by omega, by omega⟩)) (by first | assumption | exact ⟨by omega, by omega⟩ | (split <;> exact ⟨by omega, by omega⟩)) (fun hc11 => absurd ‹_› (by first | omega | assumption)) (fun hc11 => ?_)
    refine Gs_iinc2 (b52 := none) p185_14 (by first | rfl | assumption) ?_
    refine Gs_aload_n p185_17 rfl rfl ?_
    refine Gs_getR p185_18 (by first | rfl | assumption | exact (show isTale _ from by assumption).1 | exact (show isCamp _ _ from by assumption).1 | exact (show isRow _ _ from by assumption).1) (by rfl) ?_
    refine Gs_iload_n p185_21 rfl rfl ?_
    refine Gs_iald p185_22 (by first | rfl | assumption | exact (show isTale _ from by assumption).1 | exact (show isCamp _ _ from by assumption).1 | exact (show isRow _ _ from by assumption).1) (by omega) (by omega) (by omega) ?_
    rw [c1]
    refine Gs_ist3 p185_23 (by first | rfl | assumption) ?_
    refine Gs_goto (tgt := 4) p185_24 (by rfl) ?_
    exact ih
  · show Gs X d 185 4 [some (.ref 95), some (.int (iI (B.2.1 e))), some (.int (iI (((n : Nat) : Int)))), some (.int (iI (B.2.1 (pth B.2.2.1 e (((n : Nat) : Int)).toNat)))), none] [] (u) _
    have pz : pth B.2.2.1 e ((n : Int)).toNat = 0 := hp.1
    have cz := o.2.2.2.1 0 (by omega) (by omega)
    rw [if_pos rfl] at cz
    have q1 := hI.2.2.2.1 0 (by omega) (by omega)
    rw [pz]
    refine Gs_aload_n p185_4 rfl rfl ?_
    refine Gs_getR p185_5 (by first | rfl | assumption | exact (show isTale _ from by assumption).1 | exact (show isCamp _ _ from by assumption).1 | exact (show isRow _ _ from by assumption).1) (by rfl) ?_
    refine Gs_iload_n p185_8 rfl rfl ?_
    refine Gs_iald p185_9 (by first | rfl | assumption | exact (show isTale _ from by assumption).1 | exact (show isCamp _ _ from by assumption).1 | exact (show isRow _ _ from by assumption).1) (by omega) (by omega) (by omega) ?_
    rw [cz]
    refine Gs_iconst p185_10 ?_
    refine Gs_icmp_eq (tgt := 27) p185_11 (by rfl) (by first | assumption | exact ⟨by omega, by omega⟩ | (split <;> exact ⟨by omega, by omega⟩)) (by first | assumption | exact ⟨by omega, by omega⟩ | (split <;> exact ⟨by omega, by omega⟩)) (fun hc11 => ?_) (fun hc11 => absurd ‹_› (by first | omega | assumption))
    refine Gs_iload_n p185_27 rfl rfl ?_
    refine Gs_iconst p185_28 ?_
    refine Gs_isub p185_29 ?_
    refine Gs_ist3 p185_30 (by first | rfl | assumption) ?_
    refine Gs_iload_n p185_31 rfl rfl ?_
    refine Gs_ist4 p185_32 (by first | rfl | assumption) ?_
    refine dn (n := ((n : Nat) : Int)) (P := fun i => ∀ (y : St) (kk : Int), kk = (n : Int) - 1 - i → (∀ a z, a ≠ 110 → vA y a z = vA u a z) → (∀ a k, vF y a k = vF u a k) → (∀ q : Int, (n : Int) - 1 - i < q → q < n → vA y 110 q = B.2.2.2.1 (pth B.2.2.1 e ((n : Int) - 1 - q).toNat)) → Gs X d 185 34 [some (.ref 95), some (.int (iI (B.2.1 e))), some (.int (iI (n : Int))), some (.int (iI kk)), some (.int (iI (B.2.1 (pth B.2.2.1 e i.toNat))))] [] (y) (fun vv yy => ∃ zz : Int, vv = some (.int (iI zz)) ∧ (fun z t => z = (n : Int) ∧ MFr s t ∧ ∀ q : Int, 0 ≤ q → q < n → vA t 110 q = B.2.2.2.1 (pth B.2.2.1 e ((n : Int) - 1 - q).toNat)) zz yy)) (by omega) (fun i hi hin ih => ?_) ?_ _ _ (by omega) (fun _ _ _ => rfl) (fun _ _ => rfl) (fun q q0 q1 => absurd q1 (by omega))
    · show ∀ (y : St) (kk : Int), kk = (n : Int) - 1 - i → (∀ a z, a ≠ 110 → vA y a z = vA u a z) → (∀ a k, vF y a k = vF u a k) → (∀ q : Int, (n : Int) - 1 - i < q → q < n → vA y 110 q = B.2.2.2.1 (pth B.2.2.1 e ((n : Int) - 1 - q).toNat)) → Gs X d 185 34 [some (.ref 95), some (.int (iI (B.2.1 e))), some (.int (iI (n : Int))), some (.int (iI kk)), some (.int (iI (B.2.1 (pth B.2.2.1 e i.toNat))))] [] (y) _
      intro y kk hkk ya yf yq
      have pp := hp.2 i.toNat (by omega)
      have pb := pl i.toNat (by omega)
      have pb2 := pl (i + 1).toNat (by omega)
      have pe : pth B.2.2.1 e (i + 1).toNat = B.2.2.1 (pth B.2.2.1 e i.toNat) := by rw [show (i + 1).toNat = i.toNat + 1 by omega]; rfl
      have c1 := o.2.2.2.1 _ pb.1 pb.2
      rw [if_neg (by omega), ← pe] at c1
      have q1 := hI.2.2.2.1 _ pb.1 pb.2
      have q2 := hI.2.2.2.1 _ pb2.1 pb2.2
      have c6 := o.2.2.2.2 _ pp pb.2
      refine Gs_aload_n p185_34 rfl rfl ?_
      refine Gs_getR p185_35 (by first | rfl | assumption | exact (show isTale _ from by assumption).1 | exact (show isCamp _ _ from by assumption).1 | exact (show isRow _ _ from by assumption).1) (by rfl) ?_
      refine Gs_iload p185_38 rfl rfl ?_
      refine Gs_iald p185_40 (by first | rfl | assumption | exact (show isTale _ from by assumption).1 | exact (show isCamp _ _ from by assumption).1 | exact (show isRow _ _ from by assumption).1) (by omega) (by omega) (by omega) ?_
      rw [ya 109 _ (by decide), c1]
      refine Gs_iconst p185_41 ?_
      refine Gs_icmp_eq (tgt := 73) p185_42 (by rfl) (by first | assumption | exact ⟨by omega, by omega⟩ | (split <;> exact ⟨by omega, by omega⟩)) (by first | assumption | exact ⟨by omega, by omega⟩ | (split <;> exact ⟨by omega, by omega⟩)) (fun hc42 => absurd ‹_› (by first | omega | assumption)) (fun hc42 => ?_)
      refine Gs_aload_n p185_45 rfl rfl ?_
      refine Gs_getR p185_46 (by first | rfl | assumption | exact (show isTale _ from by assumption).1 | exact (show isCamp _ _ from by assumption).1 | exact (show isRow _ _ from by assumption).1) (by rfl) ?_
      refine Gs_iload_n p185_49 rfl rfl ?_
      refine Gs_aload_n p185_50 rfl rfl ?_
      refine Gs_getR p185_51 (by first | rfl | assumption | exact (show isTale _ from by assumption).1 | exact (show isCamp _ _ from by assumption).1 | exact (show isRow _ _ from by assumption).1) (by rfl) ?_
      refine Gs_iload p185_54 rfl rfl ?_
      refine Gs_iald p185_56 (by first | rfl | assumption | exact (show isTale _ from by assumption).1 | exact (show isCamp _ _ from by assumption).1 | exact (show isRow _ _ from by assumption).1) (by omega) (by omega) (by omega) ?_
      rw [ya 108 _ (by decide), c6]
      refine Gs_iast p185_57 (by first | rfl | assumption | exact (show isTale _ from by assumption).1 | exact (show isCamp _ _ from by assumption).1 | exact (show isRow _ _ from by assumption).1) (by omega) (by omega) (by omega) ?_
      refine Gs_iinc3 (b53 := none) p185_58 (by first | rfl | assumption) ?_
      refine Gs_aload_n p185_61 rfl rfl ?_
      refine Gs_getR p185_62 (by first | rfl | assumption | exact (show isTale _ from by assumption).1 | exact (show isCamp _ _ from by assumption).1 | exact (show isRow _ _ from by assumption).1) (by rfl) ?_
      refine Gs_iload p185_65 rfl rfl ?_
      refine Gs_iald p185_67 (by first | rfl | assumption | exact (show isTale _ from by assumption).1 | exact (show isCamp _ _ from by assumption).1 | exact (show isRow _ _ from by assumption).1) (by omega) (by omega) (by omega) ?_
      rw [show vA (sA y 110 kk _) 109 (B.2.1 (pth B.2.2.1 e i.toNat)) = B.2.1 (pth B.2.2.1 e (i + 1).toNat) from by rw [vA_sA, if_neg (by omega), ya 109 _ (by decide), c1]]
      refine Gs_ist4 p185_68 (by first | rfl | assumption) ?_
      refine Gs_goto (tgt := 34) p185_70 (by rfl) ?_
      have ih2 := ih (sA y 110 kk (B.2.2.2.1 (pth B.2.2.1 e i.toNat))) (kk + -1) (by omega) (fun a z h => by rw [vA_sA, if_neg (fun r => h r.1)]; exact ya a z h) yf (fun q q0 q1 => by
        rw [vA_sA]
        by_cases eq : q = kk
        · rw [if_pos ⟨rfl, eq⟩, eq, hkk, show (n : Int) - 1 - ((n : Int) - 1 - i) = i by omega]
        · rw [if_neg (fun r => eq r.2)]; exact yq q (by omega) q1)
      exact ih2
    · show ∀ (y : St) (kk : Int), kk = (n : Int) - 1 - (((n : Nat) : Int)) → (∀ a z, a ≠ 110 → vA y a z = vA u a z) → (∀ a k, vF y a k = vF u a k) → (∀ q : Int, (n : Int) - 1 - (((n : Nat) : Int)) < q → q < n → vA y 110 q = B.2.2.2.1 (pth B.2.2.1 e ((n : Int) - 1 - q).toNat)) → Gs X d 185 34 [some (.ref 95), some (.int (iI (B.2.1 e))), some (.int (iI (n : Int))), some (.int (iI kk)), some (.int (iI (B.2.1 (pth B.2.2.1 e (((n : Nat) : Int)).toNat))))] [] (y) _
      intro y kk hkk ya yf yq
      have pz : pth B.2.2.1 e ((n : Int)).toNat = 0 := hp.1
      have cz := o.2.2.2.1 0 (by omega) (by omega)
      rw [if_pos rfl] at cz
      have q1 := hI.2.2.2.1 0 (by omega) (by omega)
      rw [pz]
      refine Gs_aload_n p185_34 rfl rfl ?_
      refine Gs_getR p185_35 (by first | rfl | assumption | exact (show isTale _ from by assumption).1 | exact (show isCamp _ _ from by assumption).1 | exact (show isRow _ _ from by assumption).1) (by rfl) ?_
      refine Gs_iload p185_38 rfl rfl ?_
      refine Gs_iald p185_40 (by first | rfl | assumption | exact (show isTale _ from by assumption).1 | exact (show isCamp _ _ from by assumption).1 | exact (show isRow _ _ from by assumption).1) (by omega) (by omega) (by omega) ?_
      rw [ya 109 _ (by decide), cz]
      refine Gs_iconst p185_41 ?_
      refine Gs_icmp_eq (tgt := 73) p185_42 (by rfl) (by first | assumption | exact ⟨by omega, by omega⟩ | (split <;> exact ⟨by omega, by omega⟩)) (by first | assumption | exact ⟨by omega, by omega⟩ | (split <;> exact ⟨by omega, by omega⟩)) (fun hc42 => ?_) (fun hc42 => absurd ‹_› (by first | omega | assumption))
      refine Gs_iload_n p185_73 rfl rfl ?_
      refine Gs_iret p185_74 rfl ⟨_, rfl, ?_⟩
      exact ⟨rfl, ⟨fun a z h => (ya a z (by omega)).trans (o.1.1 a z h), fun a k => (yf a k).trans (o.1.2 a k)⟩, fun q q0 q1 => yq q (by omega) q1⟩

set_option maxHeartbeats 8000000 in
set_option maxRecDepth 4000 in
theorem c_meets {X : vX} {s : St} {L a b : Int} {C : Int → Int → Int} (hT : MT s) (hL : L ≤ 9) (hL2 : vA s 96 0 = L) (hcl : ∀ l w, 0 ≤ l → l < L → 0 ≤ w → w < 4 → 0 ≤ C l w ∧ C l w < L) (hCf : ∀ l w, 0 ≤ l → l < L → 0 ≤ w → w < 4 → cfM s l w = C l w) (a0 : 0 ≤ a) (a1 : a < L) (b0 : 0 ≤ b) (b1 : b < L) : OkI X 3 184 [.ref 95, .int (iI a), .int (iI b)] s (PostM s (bfs C 81 0 (B0 (a * 9 + b)))) := by
  refine Ok.of (r := vm_m184) (ls := [some (.ref 95), some (.int (iI a)), some (.int (iI b)), none, none, none, none, none, none]) rfl (Nat.le_of_ble_eq_true rfl) rfl (fun d hd => ?_)
  have bi0 : BI L (B0 (a * 9 + b)) := BI.b0 hL (by omega) (by omega) (by omega)
  generalize hR : bfs C 81 0 (B0 (a * 9 + b)) = R
  refine Gs_iconst p184_0 ?_
  refine Gs_ist3 p184_1 (by first | rfl | assumption) ?_
  refine dn (n := (81 : Int)) (P := fun q => ∀ (y : St) (b4 b5 b6 b7 b8 : Option Value), (∀ a z, a ≠ 109 → vA y a z = vA s a z) → (∀ a k, vF y a k = vF s a k) → (∀ x, 0 ≤ x → x < q → vA y 109 x = -4) → Gs X d 184 2 [some (.ref 95), some (.int (iI a)), some (.int (iI b)), some (.int (iI q)), b4, b5, b6, b7, b8] [] (y) (fun vv yy => ∃ zz : Int, vv = some (.int (iI zz)) ∧ (PostM s R) zz yy)) (by omega) (fun q hq hqn ih0 => ?_) ?_ _ none none none none none (fun _ _ _ => rfl) (fun _ _ => rfl) (fun x x0 x1 => absurd x1 (by omega))
  · show ∀ (y : St) (b4 b5 b6 b7 b8 : Option Value), (∀ a z, a ≠ 109 → vA y a z = vA s a z) → (∀ a k, vF y a k = vF s a k) → (∀ x, 0 ≤ x → x < q → vA y 109 x = -4) → Gs X d 184 2 [some (.ref 95), some (.int (iI a)), some (.int (iI b)), some (.int (iI q)), b4, b5, b6, b7, b8] [] (y) _
    intro y b4 b5 b6 b7 b8 ya yf yq
    refine Gs_iload_n p184_2 rfl rfl ?_
    refine Gs_bipush p184_3 (by decide) ?_
    refine Gs_icmp_ge (tgt := 22) p184_5 (by rfl) (by first | assumption | exact ⟨by omega, by omega⟩ | (split <;> exact ⟨by omega, by omega⟩)) (by first | assumption | exact ⟨by omega, by omega⟩ | (split <;> exact ⟨by omega, by omega⟩)) (fun hc5 => absurd ‹_› (by first | omega | assumption)) (fun hc5 => ?_)
    refine Gs_aload_n p184_8 rfl rfl ?_
    refine Gs_getR p184_9 (by first | rfl | assumption | exact (show isTale _ from by assumption).1 | exact (show isCamp _ _ from by assumption).1 | exact (show isRow _ _ from by assumption).1) (by rfl) ?_
    refine Gs_iload_n p184_12 rfl rfl ?_
    refine Gs_bipush p184_13 (by decide) ?_
    refine Gs_iast p184_15 (by first | rfl | assumption | exact (show isTale _ from by assumption).1 | exact (show isCamp _ _ from by assumption).1 | exact (show isRow _ _ from by assumption).1) (by omega) (by omega) (by omega) ?_
    refine Gs_iinc3 (b53 := none) p184_16 (by first | rfl | assumption) ?_
    refine Gs_goto (tgt := 2) p184_19 (by rfl) ?_
    refine ih0 _ _ _ _ _ _ (fun a z h => by rw [vA_sA, if_neg (fun r => h r.1)]; exact ya a z h) yf (fun x x0 x1 => ?_)
    rw [vA_sA]
    by_cases ex : x = q
    · rw [if_pos ⟨rfl, ex⟩]
    · rw [if_neg (fun r => ex r.2)]; exact yq x x0 (by omega)
  · show ∀ (y : St) (b4 b5 b6 b7 b8 : Option Value), (∀ a z, a ≠ 109 → vA y a z = vA s a z) → (∀ a k, vF y a k = vF s a k) → (∀ x, 0 ≤ x → x < ((81 : Int)) → vA y 109 x = -4) → Gs X d 184 2 [some (.ref 95), some (.int (iI a)), some (.int (iI b)), some (.int (iI ((81 : Int)))), b4, b5, b6, b7, b8] [] (y) _
    intro y b4 b5 b6 b7 b8 ya yf yq
    have ob : MB s (sA (sA y 107 0 (9 * a + b)) 109 (9 * a + b) (-1)) (B0 (a * 9 + b)) := by
      rw [B0_eq, show a * 9 + b = 9 * a + b by omega]
      refine ⟨⟨fun i z h => ?_, fun i k => yf i k⟩, fun j j0 j1 => ?_, fun p p0 p1 hp => ?_, fun j j0 j1 => ?_, fun j j0 j1 => ?_⟩
      · rw [vA_sA, if_neg (by omega), vA_sA, if_neg (by omega)]; exact ya i z (by omega)
      · have j1 : j < 1 := j1
        show vA _ 107 j = up1 (fun _ => 0) 0 (9 * a + b) j
        rw [up1_at, if_pos (by omega), vA_sA, if_neg (by omega), vA_sA, if_pos ⟨rfl, by omega⟩]
      · have hp : up1 (fun _ => 0) (9 * a + b) 1 p = 0 := hp
        rw [up1_at] at hp
        by_cases ep : p = 9 * a + b
        · rw [if_pos ep] at hp; omega
        · rw [vA_sA, if_neg (fun r => ep r.2), vA_sA, if_neg (by omega)]; exact yq p p0 p1
      · have j1 : j < 1 := j1
        show vA _ 109 (up1 (fun _ => 0) 0 (9 * a + b) j) = if j = 0 then -1 else _
        rw [up1_at, if_pos (by omega), if_pos (by omega), vA_sA, if_pos ⟨rfl, rfl⟩]
      · have j1 : j < 1 := j1
        omega
    refine Gs_iload_n p184_2 rfl rfl ?_
    refine Gs_bipush p184_3 (by decide) ?_
    refine Gs_icmp_ge (tgt := 22) p184_5 (by rfl) (by first | assumption | exact ⟨by omega, by omega⟩ | (split <;> exact ⟨by omega, by omega⟩)) (by first | assumption | exact ⟨by omega, by omega⟩ | (split <;> exact ⟨by omega, by omega⟩)) (fun hc5 => ?_) (fun hc5 => absurd ‹_› (by first | omega | assumption))
    refine Gs_bipush p184_22 (by decide) ?_
    refine Gs_iload_n p184_24 rfl rfl ?_
    refine Gs_imul p184_25 ?_
    refine Gs_iload_n p184_26 rfl rfl ?_
    refine Gs_iadd p184_27 ?_
    refine Gs_ist3 p184_28 (by first | rfl | assumption) ?_
    refine Gs_iconst p184_29 ?_
    refine Gs_ist4 p184_30 (by first | rfl | assumption) ?_
    refine Gs_aload_n p184_32 rfl rfl ?_
    refine Gs_getR p184_33 (by first | rfl | assumption | exact (show isTale _ from by assumption).1 | exact (show isCamp _ _ from by assumption).1 | exact (show isRow _ _ from by assumption).1) (by rfl) ?_
    refine Gs_iconst p184_36 ?_
    refine Gs_iload_n p184_37 rfl rfl ?_
    refine Gs_iast p184_38 (by first | rfl | assumption | exact (show isTale _ from by assumption).1 | exact (show isCamp _ _ from by assumption).1 | exact (show isRow _ _ from by assumption).1) (by omega) (by omega) (by omega) ?_
    refine Gs_aload_n p184_39 rfl rfl ?_
    refine Gs_getR p184_40 (by first | rfl | assumption | exact (show isTale _ from by assumption).1 | exact (show isCamp _ _ from by assumption).1 | exact (show isRow _ _ from by assumption).1) (by rfl) ?_
    refine Gs_iload_n p184_43 rfl rfl ?_
    refine Gs_iconst p184_44 ?_
    refine Gs_iast p184_45 (by first | rfl | assumption | exact (show isTale _ from by assumption).1 | exact (show isCamp _ _ from by assumption).1 | exact (show isRow _ _ from by assumption).1) (by omega) (by omega) (by omega) ?_
    refine Gs_iconst p184_46 ?_
    refine Gs_ist5 p184_47 (by first | rfl | assumption) ?_
    refine dn (n := (81 : Int)) (P := fun i => ∀ (u : St) (B : BS) (mm : Int) (b6 b7 b8 : Option Value), mm = B.1 → MB s u B → BI L B → i ≤ B.1 → bfs C (81 - i).toNat i B = R → Gs X d 184 49 [some (.ref 95), some (.int (iI a)), some (.int (iI b)), some (.int (iI (9 * a + b))), some (.int (iI mm)), some (.int (iI i)), b6, b7, b8] [] (u) (fun vv yy => ∃ zz : Int, vv = some (.int (iI zz)) ∧ (PostM s R) zz yy)) (by omega) (fun i hi hin ih => ?_) ?_ _ (B0 (a * 9 + b)) _ _ _ _ (by rw [B0_eq]) ob bi0 (by rw [B0_eq]; show (0 : Int) ≤ 1; omega) hR
    · show ∀ (u : St) (B : BS) (mm : Int) (b6 b7 b8 : Option Value), mm = B.1 → MB s u B → BI L B → i ≤ B.1 → bfs C (81 - i).toNat i B = R → Gs X d 184 49 [some (.ref 95), some (.int (iI a)), some (.int (iI b)), some (.int (iI (9 * a + b))), some (.int (iI mm)), some (.int (iI i)), b6, b7, b8] [] (u) _
      intro u B mm b6 b7 b8 hmm o hI hle e
      subst hmm
      have hM := hI.le
      rw [show (81 - i).toNat = (81 - (i + 1)).toNat + 1 by omega, bfs_s] at e
      refine Gs_iload p184_49 rfl rfl ?_
      refine Gs_iload p184_51 rfl rfl ?_
      refine Gs_icmp_ge (tgt := 176) p184_53 (by rfl) (by first | assumption | exact ⟨by omega, by omega⟩ | (split <;> exact ⟨by omega, by omega⟩)) (by first | assumption | exact ⟨by omega, by omega⟩ | (split <;> exact ⟨by omega, by omega⟩)) (fun h53 => ?_) (fun h53 => ?_)
      · refine Gs_bipush p184_176 (by decide) ?_
        refine Gs_iret p184_178 rfl ⟨_, rfl, ?_⟩
        rw [if_neg (by omega)] at e
        subst e
        exact ⟨rfl, o.1⟩
      · have hlt : i < B.1 := by omega
        have pb := hI.2.2.2.1 i hi hlt
        have c7 := o.2.1 i hi hlt
        refine Gs_aload_n p184_56 rfl rfl ?_
        refine Gs_getR p184_57 (by first | rfl | assumption | exact (show isTale _ from by assumption).1 | exact (show isCamp _ _ from by assumption).1 | exact (show isRow _ _ from by assumption).1) (by rfl) ?_
        refine Gs_iload p184_60 rfl rfl ?_
        refine Gs_iald p184_62 (by first | rfl | assumption | exact (show isTale _ from by assumption).1 | exact (show isCamp _ _ from by assumption).1 | exact (show isRow _ _ from by assumption).1) (by omega) (by omega) (by omega) ?_
        rw [c7]
        refine Gs_ist6 p184_63 (by first | rfl | assumption) ?_
        refine Gs_iload p184_65 rfl rfl ?_
        refine Gs_bipush p184_67 (by decide) ?_
        refine Gs_idiv p184_69 (by omega) (by omega) (by omega) (by omega) ?_
        refine Gs_iload p184_70 rfl rfl ?_
        refine Gs_bipush p184_72 (by decide) ?_
        refine Gs_irem p184_74 (by omega) (by omega) (by omega) (by omega) ?_
        refine Gs_icmp_ne (tgt := 85) p184_75 (by rfl) (by first | assumption | exact ⟨by omega, by omega⟩ | (split <;> exact ⟨by omega, by omega⟩)) (by first | assumption | exact ⟨by omega, by omega⟩ | (split <;> exact ⟨by omega, by omega⟩)) (fun h75 => ?_) (fun h75 => ?_)
        · rw [if_pos hlt, if_neg (by omega)] at e
          refine Gs_iconst p184_85 ?_
          refine Gs_ist7 p184_86 (by first | rfl | assumption) ?_
          refine dn (n := (4 : Int)) (P := fun j => ∀ (y : St) (b8 : Option Value), MB s y (wdB C (B.2.1 i) i B j.toNat) → Gs X d 184 88 [some (.ref 95), some (.int (iI a)), some (.int (iI b)), some (.int (iI (9 * a + b))), some (.int (iI (wdB C (B.2.1 i) i B j.toNat).1)), some (.int (iI i)), some (.int (iI (B.2.1 i))), some (.int (iI j)), b8] [] (y) (fun vv yy => ∃ zz : Int, vv = some (.int (iI zz)) ∧ (PostM s R) zz yy)) (by omega) (fun j hj hjn ih2 => ?_) ?_ _ _ o
          · show ∀ (y : St) (b8 : Option Value), MB s y (wdB C (B.2.1 i) i B j.toNat) → Gs X d 184 88 [some (.ref 95), some (.int (iI a)), some (.int (iI b)), some (.int (iI (9 * a + b))), some (.int (iI (wdB C (B.2.1 i) i B j.toNat).1)), some (.int (iI i)), some (.int (iI (B.2.1 i))), some (.int (iI j)), b8] [] (y) _
            intro y b8 o2
            obtain ⟨w1, w2, w3⟩ := hI.wd hL hcl hi hlt j.toNat (by omega)
            have f96 : ∀ z, vA y 96 z = vA s 96 z := fun z => o2.1.1 96 z (by decide)
            have eC : ∀ l w, 0 ≤ l → l < L → 0 ≤ w → w < 4 → cfM y l w = C l w := fun l w x1 x2 x3 x4 => by rw [show cfM y l w = cfM s l w by unfold cfM; rw [bhM_cong f96], hCf l w x1 x2 x3 x4]
            have c1 := hcl (B.2.1 i / 9) j (by omega) pb.2.1 hj hjn
            have c2 := hcl (B.2.1 i % 9) j (by omega) pb.2.2.1 hj hjn
            have sw : 9 * C (B.2.1 i / 9) j + C (B.2.1 i % 9) j = C (B.2.1 i / 9) j * 9 + C (B.2.1 i % 9) j := by omega
            have nf := o2.nf w1 (q := C (B.2.1 i / 9) j * 9 + C (B.2.1 i % 9) j) (by omega) (by omega)
            have rg9 := o2.rg w1 hL (q := C (B.2.1 i / 9) j * 9 + C (B.2.1 i % 9) j) (by omega) (by omega)
            have lt9 := fun e => w1.lt (q := C (B.2.1 i / 9) j * 9 + C (B.2.1 i % 9) j) (by omega) (by omega) e
            have w0 := w1.1
            refine Gs_iload p184_88 rfl rfl ?_
            refine Gs_iconst p184_90 ?_
            refine Gs_icmp_ge (tgt := 170) p184_91 (by rfl) (by first | assumption | exact ⟨by omega, by omega⟩ | (split <;> exact ⟨by omega, by omega⟩)) (by first | assumption | exact ⟨by omega, by omega⟩ | (split <;> exact ⟨by omega, by omega⟩)) (fun hc91 => absurd ‹_› (by first | omega | assumption)) (fun hc91 => ?_)
            refine Gs_bipush p184_94 (by decide) ?_
            refine Gs_aload_n p184_96 rfl rfl ?_
            refine Gs_iload p184_97 rfl rfl ?_
            refine Gs_bipush p184_99 (by decide) ?_
            refine Gs_idiv p184_101 (by omega) (by omega) (by omega) (by omega) ?_
            refine Gs_iload p184_102 rfl rfl ?_
            refine Gs_callV2I p184_104 (by rfl) (by rfl) (by rfl) (Nat.le_of_ble_eq_true rfl) (by decide) (c_mgoes (hT.cong f96) (by omega) (by rw [f96]; omega) hj hjn) (by omega) ?_
            rw [eC _ _ (by omega) pb.2.1 hj hjn]
            refine Gs_imul p184_107 ?_
            refine Gs_aload_n p184_108 rfl rfl ?_
            refine Gs_iload p184_109 rfl rfl ?_
            refine Gs_bipush p184_111 (by decide) ?_
            refine Gs_irem p184_113 (by omega) (by omega) (by omega) (by omega) ?_
            refine Gs_iload p184_114 rfl rfl ?_
            refine Gs_callV2I p184_116 (by rfl) (by rfl) (by rfl) (Nat.le_of_ble_eq_true rfl) (by decide) (c_mgoes (hT.cong f96) (by omega) (by rw [f96]; omega) hj hjn) (by omega) ?_
            rw [eC _ _ (by omega) pb.2.2.1 hj hjn]
            refine Gs_iadd p184_119 ?_
            rw [sw]
            refine Gs_ist8 p184_120 (by first | rfl | assumption) ?_
            refine Gs_aload_n p184_122 rfl rfl ?_
            refine Gs_getR p184_123 (by first | rfl | assumption | exact (show isTale _ from by assumption).1 | exact (show isCamp _ _ from by assumption).1 | exact (show isRow _ _ from by assumption).1) (by rfl) ?_
            refine Gs_iload p184_126 rfl rfl ?_
            refine Gs_iald p184_128 (by first | rfl | assumption | exact (show isTale _ from by assumption).1 | exact (show isCamp _ _ from by assumption).1 | exact (show isRow _ _ from by assumption).1) (by omega) (by omega) (by omega) ?_
            refine Gs_bipush p184_129 (by decide) ?_
            refine Gs_icmp_ne (tgt := 164) p184_131 (by rfl) (by first | assumption | exact ⟨by omega, by omega⟩ | (split <;> exact ⟨by omega, by omega⟩)) (by first | assumption | exact ⟨by omega, by omega⟩ | (split <;> exact ⟨by omega, by omega⟩)) (fun h131 => ?_) (fun h131 => ?_)
            · refine Gs_iinc7 (b57 := none) p184_164 (by first | rfl | assumption) ?_
              refine Gs_goto (tgt := 88) p184_167 (by rfl) ?_
              first
                | (have hq := nf.mp (by omega)
                   have M := o2.re w1 (q := C (B.2.1 i / 9) j * 9 + C (B.2.1 i % 9) j) (k := i) (w := j) hi (by omega) hq
                   rw [w3 i hlt, ← wdB_s hj] at M
                   have ih3 := ih2 _ (some (.int (iI (C (B.2.1 i / 9) j * 9 + C (B.2.1 i % 9) j)))) M.1
                   rw [M.2] at ih3
                   exact ih3)
                | (have hq : ¬ (wdB C (B.2.1 i) i B j.toNat).2.2.2.2 (C (B.2.1 i / 9) j * 9 + C (B.2.1 i % 9) j) = 0 := fun e => by have := nf.mpr e; omega
                   have e1 : wdB C (B.2.1 i) i B (j + 1).toNat = wdB C (B.2.1 i) i B j.toNat := by rw [wdB_s hj]; exact if_neg hq
                   have ih3 := ih2 y (some (.int (iI (C (B.2.1 i / 9) j * 9 + C (B.2.1 i % 9) j)))) (by rw [e1]; exact o2)
                   rw [e1] at ih3
                   exact ih3)
            · have l9 := lt9 (nf.mp (by omega))
              refine Gs_aload_n p184_134 rfl rfl ?_
              refine Gs_getR p184_135 (by first | rfl | assumption | exact (show isTale _ from by assumption).1 | exact (show isCamp _ _ from by assumption).1 | exact (show isRow _ _ from by assumption).1) (by rfl) ?_
              refine Gs_iload p184_138 rfl rfl ?_
              refine Gs_iload p184_140 rfl rfl ?_
              refine Gs_iast p184_142 (by first | rfl | assumption | exact (show isTale _ from by assumption).1 | exact (show isCamp _ _ from by assumption).1 | exact (show isRow _ _ from by assumption).1) (by omega) (by omega) (by omega) ?_
              refine Gs_aload_n p184_143 rfl rfl ?_
              refine Gs_getR p184_144 (by first | rfl | assumption | exact (show isTale _ from by assumption).1 | exact (show isCamp _ _ from by assumption).1 | exact (show isRow _ _ from by assumption).1) (by rfl) ?_
              refine Gs_iload p184_147 rfl rfl ?_
              refine Gs_iload p184_149 rfl rfl ?_
              refine Gs_iast p184_151 (by first | rfl | assumption | exact (show isTale _ from by assumption).1 | exact (show isCamp _ _ from by assumption).1 | exact (show isRow _ _ from by assumption).1) (by omega) (by omega) (by omega) ?_
              refine Gs_aload_n p184_152 rfl rfl ?_
              refine Gs_getR p184_153 (by first | rfl | assumption | exact (show isTale _ from by assumption).1 | exact (show isCamp _ _ from by assumption).1 | exact (show isRow _ _ from by assumption).1) (by rfl) ?_
              refine Gs_iload p184_156 rfl rfl ?_
              refine Gs_iload p184_158 rfl rfl ?_
              refine Gs_iast p184_160 (by first | rfl | assumption | exact (show isTale _ from by assumption).1 | exact (show isCamp _ _ from by assumption).1 | exact (show isRow _ _ from by assumption).1) (by omega) (by omega) (by omega) ?_
              refine Gs_iinc4 (b54 := none) p184_161 (by first | rfl | assumption) ?_
              refine Gs_iinc7 (b57 := none) p184_164 (by first | rfl | assumption) ?_
              refine Gs_goto (tgt := 88) p184_167 (by rfl) ?_
              first
                | (have hq := nf.mp (by omega)
                   have M := o2.re w1 (q := C (B.2.1 i / 9) j * 9 + C (B.2.1 i % 9) j) (k := i) (w := j) hi (by omega) hq
                   rw [w3 i hlt, ← wdB_s hj] at M
                   have ih3 := ih2 _ (some (.int (iI (C (B.2.1 i / 9) j * 9 + C (B.2.1 i % 9) j)))) M.1
                   rw [M.2] at ih3
                   exact ih3)
                | (have hq : ¬ (wdB C (B.2.1 i) i B j.toNat).2.2.2.2 (C (B.2.1 i / 9) j * 9 + C (B.2.1 i % 9) j) = 0 := fun e => by have := nf.mpr e; omega
                   have e1 : wdB C (B.2.1 i) i B (j + 1).toNat = wdB C (B.2.1 i) i B j.toNat := by rw [wdB_s hj]; exact if_neg hq
                   have ih3 := ih2 y (some (.int (iI (C (B.2.1 i / 9) j * 9 + C (B.2.1 i % 9) j)))) (by rw [e1]; exact o2)
                   rw [e1] at ih3
                   exact ih3)
          · show ∀ (y : St) (b8 : Option Value), MB s y (wdB C (B.2.1 i) i B ((4 : Int)).toNat) → Gs X d 184 88 [some (.ref 95), some (.int (iI a)), some (.int (iI b)), some (.int (iI (9 * a + b))), some (.int (iI (wdB C (B.2.1 i) i B ((4 : Int)).toNat).1)), some (.int (iI i)), some (.int (iI (B.2.1 i))), some (.int (iI ((4 : Int)))), b8] [] (y) _
            intro y b8 o2
            obtain ⟨w1, w2, w3⟩ := hI.wd hL hcl hi hlt 4 (by omega)
            refine Gs_iload p184_88 rfl rfl ?_
            refine Gs_iconst p184_90 ?_
            refine Gs_icmp_ge (tgt := 170) p184_91 (by rfl) (by first | assumption | exact ⟨by omega, by omega⟩ | (split <;> exact ⟨by omega, by omega⟩)) (by first | assumption | exact ⟨by omega, by omega⟩ | (split <;> exact ⟨by omega, by omega⟩)) (fun hc91 => ?_) (fun hc91 => absurd ‹_› (by first | omega | assumption))
            refine Gs_iinc5 (b55 := none) p184_170 (by first | rfl | assumption) ?_
            refine Gs_goto (tgt := 49) p184_173 (by rfl) ?_
            exact ih y _ _ _ _ _ rfl o2 w1 (show i + 1 ≤ (wdB C (B.2.1 i) i B 4).1 by omega) e
        · rw [if_pos hlt, if_pos (by omega)] at e
          subst e
          obtain ⟨n, n1, n2⟩ := pth_ex (fun j a b => ⟨(hI.2.2.2.2.2.2 j a b).1, (hI.2.2.2.2.2.2 j a b).2.1⟩) i.toNat i hi hlt (by omega)
          refine Gs_aload_n p184_78 rfl rfl ?_
          refine Gs_iload p184_79 rfl rfl ?_
          refine Gs_callV1i p184_81 (by rfl) (by rfl) (by rfl) (Nat.le_of_ble_eq_true rfl) (by decide) (c_laysWay (s := s) o hI hL hi hlt n2 (by omega)) (by omega) (fun z81 s81 h81 => ?_)
          refine Gs_iret p184_84 rfl ⟨_, rfl, ?_⟩
          obtain ⟨q1, q2, q3⟩ := h81
          exact ⟨n, q1, by omega, n2, q2, q3⟩
    · show ∀ (u : St) (B : BS) (mm : Int) (b6 b7 b8 : Option Value), mm = B.1 → MB s u B → BI L B → ((81 : Int)) ≤ B.1 → bfs C (81 - ((81 : Int))).toNat ((81 : Int)) B = R → Gs X d 184 49 [some (.ref 95), some (.int (iI a)), some (.int (iI b)), some (.int (iI (9 * a + b))), some (.int (iI mm)), some (.int (iI ((81 : Int)))), b6, b7, b8] [] (u) _
      intro u B mm b6 b7 b8 hmm o hI hle e
      subst hmm
      have hM := hI.le
      refine Gs_iload p184_49 rfl rfl ?_
      refine Gs_iload p184_51 rfl rfl ?_
      refine Gs_icmp_ge (tgt := 176) p184_53 (by rfl) (by first | assumption | exact ⟨by omega, by omega⟩ | (split <;> exact ⟨by omega, by omega⟩)) (by first | assumption | exact ⟨by omega, by omega⟩ | (split <;> exact ⟨by omega, by omega⟩)) (fun h53 => ?_) (fun h53 => absurd ‹_› (by first | omega | assumption))
      refine Gs_bipush p184_176 (by decide) ?_
      refine Gs_iret p184_178 rfl ⟨_, rfl, ?_⟩
      have e : none = R := e
      subst e
      exact ⟨rfl, o.1⟩

set_option maxHeartbeats 1000000 in
set_option maxRecDepth 4000 in
theorem m_meet {X : vX} {s : St} {L a b k : Int} {C : Int → Int → Int} (hT : MT s) (hL : L ≤ 9) (hL2 : vA s 96 0 = L) (hcl : ∀ l w, 0 ≤ l → l < L → 0 ≤ w → w < 4 → 0 ≤ C l w ∧ C l w < L) (hCf : ∀ l w, 0 ≤ l → l < L → 0 ≤ w → w < 4 → cfM s l w = C l w) (hm : MC s 98 (vA s 96 2)) (gk : rg k) (hv : ((0 ≤ a ∧ a < vA s 96 2) ∧ (0 ≤ b ∧ b < vA s 96 2) ∧ a ≠ b)) (hk : -1 ≤ k) (c1 : 0 < vA s 98 a) (c2 : 0 < vA s 98 b) (la : 0 ≤ vA s 98 (4 + a) ∧ vA s 98 (4 + a) < L) (lb : 0 ≤ vA s 98 (4 + b) ∧ vA s 98 (4 + b) < L) : OkI X 4 186 [.ref 95, .int (iI a), .int (iI b), .int (iI k)] s (fun z t => ansR (bfs C 81 0 (B0 (vA s 98 (4 + a) * 9 + vA s 98 (4 + b)))) k z ∧ MFr s t) := by
  refine Ok.of (r := vm_m186) (ls := [some (.ref 95), some (.int (iI a)), some (.int (iI b)), some (.int (iI k)), none]) rfl (Nat.le_of_ble_eq_true rfl) rfl (fun d hd => ?_)
  obtain ⟨⟨a0, a1⟩, ⟨b0, b1⟩, hab⟩ := id hv
  obtain ⟨x1, x2, x3, x4, x5, x6, x7, x8⟩ := id hT
  refine Gs_aload_n p186_0 rfl rfl ?_
  refine Gs_iload_n p186_1 rfl rfl ?_
  refine Gs_callV1I p186_2 (by rfl) (by rfl) (by first | rfl | assumption | exact (show isTale _ from by assumption).1 | exact (show isCamp _ _ from by assumption).1 | exact (show isRow _ _ from by assumption).1) (Nat.le_of_ble_eq_true rfl) (by decide) (c_misCompany hT ⟨by omega, by omega⟩) (by omega) ?_
  refine Gs_ifb_eq (tgt := 26) p186_5 (by rfl) (fun h5 => ?_) (fun h5 => ?_)
  · refine Gs_iconst p186_26 ?_
    refine Gs_iret p186_27 rfl ⟨_, rfl, ?_⟩
    exfalso; omega
  · refine Gs_aload_n p186_8 rfl rfl ?_
    refine Gs_iload_n p186_9 rfl rfl ?_
    refine Gs_callV1I p186_10 (by rfl) (by rfl) (by first | rfl | assumption | exact (show isTale _ from by assumption).1 | exact (show isCamp _ _ from by assumption).1 | exact (show isRow _ _ from by assumption).1) (Nat.le_of_ble_eq_true rfl) (by decide) (c_misCompany hT ⟨by omega, by omega⟩) (by omega) ?_
    refine Gs_ifb_eq (tgt := 26) p186_13 (by rfl) (fun h13 => ?_) (fun h13 => ?_)
    · refine Gs_iconst p186_26 ?_
      refine Gs_iret p186_27 rfl ⟨_, rfl, ?_⟩
      exfalso; omega
    · refine Gs_iload_n p186_16 rfl rfl ?_
      refine Gs_iload_n p186_17 rfl rfl ?_
      refine Gs_icmp_eq (tgt := 26) p186_18 (by rfl) (by first | assumption | exact ⟨by omega, by omega⟩ | (split <;> exact ⟨by omega, by omega⟩)) (by first | assumption | exact ⟨by omega, by omega⟩ | (split <;> exact ⟨by omega, by omega⟩)) (fun h18 => ?_) (fun h18 => ?_)
      · refine Gs_iconst p186_26 ?_
        refine Gs_iret p186_27 rfl ⟨_, rfl, ?_⟩
        exfalso; omega
      · refine Gs_iload_n p186_21 rfl rfl ?_
        refine Gs_iconst p186_22 ?_
        refine Gs_icmp_ge (tgt := 28) p186_23 (by rfl) (by first | assumption | exact ⟨by omega, by omega⟩ | (split <;> exact ⟨by omega, by omega⟩)) (by first | assumption | exact ⟨by omega, by omega⟩ | (split <;> exact ⟨by omega, by omega⟩)) (fun h23 => ?_) (fun h23 => ?_)
        · refine Gs_aload_n p186_28 rfl rfl ?_
          refine Gs_iload_n p186_29 rfl rfl ?_
          refine Gs_callV1I p186_30 (by rfl) (by rfl) (by first | rfl | assumption | exact (show isTale _ from by assumption).1 | exact (show isCamp _ _ from by assumption).1 | exact (show isRow _ _ from by assumption).1) (Nat.le_of_ble_eq_true rfl) (by decide) (c_misIn hm a0 (by omega)) (by omega) ?_
          refine Gs_ifb_eq (tgt := 44) p186_33 (by rfl) (fun h33 => ?_) (fun h33 => ?_)
          · refine Gs_bipush p186_44 (by decide) ?_
            refine Gs_iret p186_46 rfl ⟨_, rfl, ?_⟩
            exfalso; omega
          · refine Gs_aload_n p186_36 rfl rfl ?_
            refine Gs_iload_n p186_37 rfl rfl ?_
            refine Gs_callV1I p186_38 (by rfl) (by rfl) (by first | rfl | assumption | exact (show isTale _ from by assumption).1 | exact (show isCamp _ _ from by assumption).1 | exact (show isRow _ _ from by assumption).1) (Nat.le_of_ble_eq_true rfl) (by decide) (c_misIn hm b0 (by omega)) (by omega) ?_
            refine Gs_ifb_ne (tgt := 47) p186_41 (by rfl) (fun h41 => ?_) (fun h41 => ?_)
            · refine Gs_aload_n p186_47 rfl rfl ?_
              refine Gs_aload_n p186_48 rfl rfl ?_
              refine Gs_getR p186_49 (by first | rfl | assumption | exact (show isTale _ from by assumption).1 | exact (show isCamp _ _ from by assumption).1 | exact (show isRow _ _ from by assumption).1) (by rfl) ?_
              refine Gs_iconst p186_52 ?_
              refine Gs_iload_n p186_53 rfl rfl ?_
              refine Gs_iadd p186_54 ?_
              refine Gs_iald p186_55 (by first | rfl | assumption | exact (show isTale _ from by assumption).1 | exact (show isCamp _ _ from by assumption).1 | exact (show isRow _ _ from by assumption).1) (by omega) (by omega) (by omega) ?_
              refine Gs_aload_n p186_56 rfl rfl ?_
              refine Gs_getR p186_57 (by first | rfl | assumption | exact (show isTale _ from by assumption).1 | exact (show isCamp _ _ from by assumption).1 | exact (show isRow _ _ from by assumption).1) (by rfl) ?_
              refine Gs_iconst p186_60 ?_
              refine Gs_iload_n p186_61 rfl rfl ?_
              refine Gs_iadd p186_62 ?_
              refine Gs_iald p186_63 (by first | rfl | assumption | exact (show isTale _ from by assumption).1 | exact (show isCamp _ _ from by assumption).1 | exact (show isRow _ _ from by assumption).1) (by omega) (by omega) (by omega) ?_
              refine Gs_callV2i p186_64 (by rfl) (by rfl) (by rfl) (Nat.le_of_ble_eq_true rfl) (by decide) (c_meets hT hL hL2 hcl hCf la.1 la.2 lb.1 lb.2) (by omega) (fun z64 s64 h64 => ?_)
              have bz := h64.b
              refine Gs_ist4 p186_67 (by first | rfl | assumption) ?_
              refine Gs_iload p186_69 rfl rfl ?_
              refine Gs_bipush p186_71 (by decide) ?_
              refine Gs_icmp_eq (tgt := 81) p186_73 (by rfl) (by first | assumption | exact ⟨by omega, by omega⟩ | (split <;> exact ⟨by omega, by omega⟩)) (by first | assumption | exact ⟨by omega, by omega⟩ | (split <;> exact ⟨by omega, by omega⟩)) (fun h73 => ?_) (fun h73 => ?_)
              · refine Gs_iload p186_81 rfl rfl ?_
                refine Gs_goto (tgt := 103) p186_83 (by rfl) ?_
                refine Gs_iret p186_103 rfl ⟨_, rfl, ?_⟩
                first
                  | exact ⟨h64.a1 (by omega), h64.fr⟩
                  | exact ⟨(h64.a2 (show 0 ≤ k by omega) (by omega)).1 (by omega), h64.fr⟩
                  | exact ⟨(h64.a2 (show 0 ≤ k by omega) (by omega)).2 (by omega), h64.fr⟩
              · refine Gs_iload_n p186_76 rfl rfl ?_
                refine Gs_iconst p186_77 ?_
                refine Gs_icmp_ne (tgt := 86) p186_78 (by rfl) (by first | assumption | exact ⟨by omega, by omega⟩ | (split <;> exact ⟨by omega, by omega⟩)) (by first | assumption | exact ⟨by omega, by omega⟩ | (split <;> exact ⟨by omega, by omega⟩)) (fun h78 => ?_) (fun h78 => ?_)
                · refine Gs_iload_n p186_86 rfl rfl ?_
                  refine Gs_iload p186_87 rfl rfl ?_
                  refine Gs_icmp_ge (tgt := 101) p186_89 (by rfl) (by first | assumption | exact ⟨by omega, by omega⟩ | (split <;> exact ⟨by omega, by omega⟩)) (by first | assumption | exact ⟨by omega, by omega⟩ | (split <;> exact ⟨by omega, by omega⟩)) (fun h89 => ?_) (fun h89 => ?_)
                  · refine Gs_bipush p186_101 (by decide) ?_
                    refine Gs_iret p186_103 rfl ⟨_, rfl, ?_⟩
                    first
                      | exact ⟨h64.a1 (by omega), h64.fr⟩
                      | exact ⟨(h64.a2 (show 0 ≤ k by omega) (by omega)).1 (by omega), h64.fr⟩
                      | exact ⟨(h64.a2 (show 0 ≤ k by omega) (by omega)).2 (by omega), h64.fr⟩
                  · refine Gs_aload_n p186_92 rfl rfl ?_
                    refine Gs_getR p186_93 (by first | rfl | assumption | exact (show isTale _ from by assumption).1 | exact (show isCamp _ _ from by assumption).1 | exact (show isRow _ _ from by assumption).1) (by rfl) ?_
                    refine Gs_iload_n p186_96 rfl rfl ?_
                    refine Gs_iald p186_97 (by first | rfl | assumption | exact (show isTale _ from by assumption).1 | exact (show isCamp _ _ from by assumption).1 | exact (show isRow _ _ from by assumption).1) (by omega) (by omega) (by omega) ?_
                    refine Gs_goto (tgt := 103) p186_98 (by rfl) ?_
                    refine Gs_iret p186_103 rfl ⟨_, rfl, ?_⟩
                    first
                      | exact ⟨h64.a1 (by omega), h64.fr⟩
                      | exact ⟨(h64.a2 (show 0 ≤ k by omega) (by omega)).1 (by omega), h64.fr⟩
                      | exact ⟨(h64.a2 (show 0 ≤ k by omega) (by omega)).2 (by omega), h64.fr⟩
                · refine Gs_iload p186_81 rfl rfl ?_
                  refine Gs_goto (tgt := 103) p186_83 (by rfl) ?_
                  refine Gs_iret p186_103 rfl ⟨_, rfl, ?_⟩
                  first
                    | exact ⟨h64.a1 (by omega), h64.fr⟩
                    | exact ⟨(h64.a2 (show 0 ≤ k by omega) (by omega)).1 (by omega), h64.fr⟩
                    | exact ⟨(h64.a2 (show 0 ≤ k by omega) (by omega)).2 (by omega), h64.fr⟩
            · refine Gs_bipush p186_44 (by decide) ?_
              refine Gs_iret p186_46 rfl ⟨_, rfl, ?_⟩
              exfalso; omega
        · refine Gs_iconst p186_26 ?_
          refine Gs_iret p186_27 rfl ⟨_, rfl, ?_⟩
          exfalso; omega

set_option maxHeartbeats 1000000 in
set_option maxRecDepth 4000 in
theorem m_meet_no {X : vX} {s : St} {a b k : Int} (hT : MT s) (hm : MC s 98 (vA s 96 2)) (ga : rg a) (gb : rg b) (gk : rg k) (hno : ¬ ((((0 ≤ a ∧ a < vA s 96 2) ∧ (0 ≤ b ∧ b < vA s 96 2) ∧ a ≠ b) ∧ -1 ≤ k) ∧ (0 < vA s 98 a ∧ 0 < vA s 98 b))) : OkI X 4 186 [.ref 95, .int (iI a), .int (iI b), .int (iI k)] s (Is1 (if ((0 ≤ a ∧ a < vA s 96 2) ∧ (0 ≤ b ∧ b < vA s 96 2) ∧ a ≠ b) ∧ -1 ≤ k then -2 else -1) s) := by
  refine Ok.of (r := vm_m186) (ls := [some (.ref 95), some (.int (iI a)), some (.int (iI b)), some (.int (iI k)), none]) rfl (Nat.le_of_ble_eq_true rfl) rfl (fun d hd => ?_)
  obtain ⟨x1, x2, x3, x4, x5, x6, x7, x8⟩ := id hT
  refine Gs_aload_n p186_0 rfl rfl ?_
  refine Gs_iload_n p186_1 rfl rfl ?_
  refine Gs_callV1I p186_2 (by rfl) (by rfl) (by first | rfl | assumption | exact (show isTale _ from by assumption).1 | exact (show isCamp _ _ from by assumption).1 | exact (show isRow _ _ from by assumption).1) (Nat.le_of_ble_eq_true rfl) (by decide) (c_misCompany hT ga) (by omega) ?_
  refine Gs_ifb_eq (tgt := 26) p186_5 (by rfl) (fun h5 => ?_) (fun h5 => ?_)
  · refine Gs_iconst p186_26 ?_
    refine Gs_iret p186_27 rfl ⟨_, rfl, ?_⟩
    refine ⟨?_, rfl⟩
    first | (rw [if_neg (by omega)]; done) | (rw [if_pos (by omega)]; done)
  · refine Gs_aload_n p186_8 rfl rfl ?_
    refine Gs_iload_n p186_9 rfl rfl ?_
    refine Gs_callV1I p186_10 (by rfl) (by rfl) (by first | rfl | assumption | exact (show isTale _ from by assumption).1 | exact (show isCamp _ _ from by assumption).1 | exact (show isRow _ _ from by assumption).1) (Nat.le_of_ble_eq_true rfl) (by decide) (c_misCompany hT gb) (by omega) ?_
    refine Gs_ifb_eq (tgt := 26) p186_13 (by rfl) (fun h13 => ?_) (fun h13 => ?_)
    · refine Gs_iconst p186_26 ?_
      refine Gs_iret p186_27 rfl ⟨_, rfl, ?_⟩
      refine ⟨?_, rfl⟩
      first | (rw [if_neg (by omega)]; done) | (rw [if_pos (by omega)]; done)
    · refine Gs_iload_n p186_16 rfl rfl ?_
      refine Gs_iload_n p186_17 rfl rfl ?_
      refine Gs_icmp_eq (tgt := 26) p186_18 (by rfl) (by first | assumption | exact ⟨by omega, by omega⟩ | (split <;> exact ⟨by omega, by omega⟩)) (by first | assumption | exact ⟨by omega, by omega⟩ | (split <;> exact ⟨by omega, by omega⟩)) (fun h18 => ?_) (fun h18 => ?_)
      · refine Gs_iconst p186_26 ?_
        refine Gs_iret p186_27 rfl ⟨_, rfl, ?_⟩
        refine ⟨?_, rfl⟩
        first | (rw [if_neg (by omega)]; done) | (rw [if_pos (by omega)]; done)
      · refine Gs_iload_n p186_21 rfl rfl ?_
        refine Gs_iconst p186_22 ?_
        refine Gs_icmp_ge (tgt := 28) p186_23 (by rfl) (by first | assumption | exact ⟨by omega, by omega⟩ | (split <;> exact ⟨by omega, by omega⟩)) (by first | assumption | exact ⟨by omega, by omega⟩ | (split <;> exact ⟨by omega, by omega⟩)) (fun h23 => ?_) (fun h23 => ?_)
        · refine Gs_aload_n p186_28 rfl rfl ?_
          refine Gs_iload_n p186_29 rfl rfl ?_
          refine Gs_callV1I p186_30 (by rfl) (by rfl) (by first | rfl | assumption | exact (show isTale _ from by assumption).1 | exact (show isCamp _ _ from by assumption).1 | exact (show isRow _ _ from by assumption).1) (Nat.le_of_ble_eq_true rfl) (by decide) (c_misIn hm (by omega) (by omega)) (by omega) ?_
          refine Gs_ifb_eq (tgt := 44) p186_33 (by rfl) (fun h33 => ?_) (fun h33 => ?_)
          · refine Gs_bipush p186_44 (by decide) ?_
            refine Gs_iret p186_46 rfl ⟨_, rfl, ?_⟩
            refine ⟨?_, rfl⟩
            first | (rw [if_neg (by omega)]; done) | (rw [if_pos (by omega)]; done)
          · refine Gs_aload_n p186_36 rfl rfl ?_
            refine Gs_iload_n p186_37 rfl rfl ?_
            refine Gs_callV1I p186_38 (by rfl) (by rfl) (by first | rfl | assumption | exact (show isTale _ from by assumption).1 | exact (show isCamp _ _ from by assumption).1 | exact (show isRow _ _ from by assumption).1) (Nat.le_of_ble_eq_true rfl) (by decide) (c_misIn hm (by omega) (by omega)) (by omega) ?_
            refine Gs_ifb_ne (tgt := 47) p186_41 (by rfl) (fun h41 => ?_) (fun h41 => ?_)
            · exfalso; omega
            · refine Gs_bipush p186_44 (by decide) ?_
              refine Gs_iret p186_46 rfl ⟨_, rfl, ?_⟩
              refine ⟨?_, rfl⟩
              first | (rw [if_neg (by omega)]; done) | (rw [if_pos (by omega)]; done)
        · refine Gs_iconst p186_26 ?_
          refine Gs_iret p186_27 rfl ⟨_, rfl, ?_⟩
          refine ⟨?_, rfl⟩
          first | (rw [if_neg (by omega)]; done) | (rw [if_pos (by omega)]; done)

theorem T_meet {X : vX} {K : Int} {s : St} (hR : Rel K s) (hK : K < 512) {x1 x2 x3 : Int} (g1 : rg x1) (g2 : rg x2) (g3 : rg x3) : Both X K s 109 186 [.int (iI x1), .int (iI x2), .int (iI x3)] := by
  obtain ⟨h0, h1, h2, h3, h4, h5, h6⟩ := id hR
  have e0 := h3.2.2.1
  have hL : vF s 5 4 ≤ 9 := h3.1.2.1
  by_cases c : (((0 ≤ x1 ∧ x1 < vA s 96 2) ∧ (0 ≤ x2 ∧ x2 < vA s 96 2) ∧ x1 ≠ x2) ∧ -1 ≤ x3) ∧ (1 ≤ cg s 14 x1 0 ∧ 1 ≤ cg s 14 x2 0)
  · obtain ⟨⟨c1, c2⟩, c3, c4⟩ := c
    have la := (h4.2.2.2.1 x1 c1.1.1 c1.1.2).2.2.2.2.2.2 c3
    have lb := (h4.2.2.2.1 x2 c1.2.1.1 c1.2.1.2).2.2.2.2.2.2 c4
    have cl : ∀ l w, 0 ≤ l → l < vF s 5 4 → 0 ≤ w → w < 4 → 0 ≤ cfI s 5 l w ∧ cfI s 5 l w < vF s 5 4 := fun l w a b _ _ => h3.cf_line a b
    obtain ⟨z, t, ⟨ez, o⟩, A⟩ := (k_meet (X := X) h3.1 hL cl h4.1 g3 c1 c2 c3 c4 la lb).ex
    have e96 : ∀ z, vA t 96 z = vA s 96 z := fun z => o.1 96 z (by decide)
    have e98 : ∀ z, vA t 98 z = vA s 98 z := fun z => o.1 98 z (by decide)
    have eC : ∀ l w, cfM t l w = cfM s l w := fun l w => by unfold cfM; rw [bhM_cong e96]
    have va0 := h4.v0 c1.1.1 c1.1.2 (w := 0) (by omega) (by omega)
    have va1 := h4.v0 c1.1.1 c1.1.2 (w := 1) (by omega) (by omega)
    have vb0 := h4.v0 c1.2.1.1 c1.2.1.2 (w := 0) (by omega) (by omega)
    have vb1 := h4.v0 c1.2.1.1 c1.2.1.2 (w := 1) (by omega) (by omega)
    rw [mi_0] at va0 vb0
    rw [mi_1] at va1 vb1
    obtain ⟨z', t', ⟨ez', o'⟩, B⟩ := (m_meet (X := X) (s := t) (a := x1) (b := x2) (k := x3) (C := cfI s 5) (hR.MT.cong e96) hL (by rw [e96]; exact e0) cl (fun l w a b d e => by rw [eC]; exact h3.cf a b d e) (by rw [e96]; exact h4.mc.cong e98) g3 (by rw [e96]; exact c1) c2 (by rw [e98]; omega) (by rw [e98]; omega) (by rw [e98, ← va1]; exact la) (by rw [e98, ← vb1]; exact lb)).ex
    rw [e98, e98, ← va1, ← vb1] at ez'
    refine Both.n hR A B (by decide) (by decide) (ez'.un ez) ⟨fun a ha z => ?_, fun a k ha => ?_⟩
    · rw [o'.1 a z (Nat.lt_of_not_le (fun e => ha (by unfold scr; omega))), o.1 a z (by unfold scr at ha; omega)]
    · rw [o'.2, o.2 a k (by have := ha.1; unfold scr at this; omega)]
  · refine Both.q hR (k_meet_no h4.1 g1 g2 g3 c) (m_meet_no hR.MT h4.mc g1 g2 g3 (fun q => c ⟨q.1, ?_, ?_⟩)) (by decide) (by decide) rfl ?_ (Kept.rfl' s)
    · rw [h4.v0 q.1.1.1.1 q.1.1.1.2 (by omega) (by omega), mi_0]; omega
    · rw [h4.v0 q.1.1.2.1.1 q.1.1.2.1.2 (by omega) (by omega), mi_0]; omega
    · split <;> exact ⟨by omega, by omega⟩