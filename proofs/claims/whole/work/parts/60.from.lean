/-! from, rows -/
theorem OkI.norm {X : vX} {D mid : Nat} {as : List Value} {s t : St} {z : Int} (h : OkI X D mid as s (Is1 z t)) : OkI X D mid as s (Is1 (iI z).toInt t) := Ok.imp h (fun v' t' ⟨y, e, ey, et⟩ => ⟨(iI z).toInt, by rw [e, ey, iI_of], rfl, et⟩)
theorem Both.n {X : vX} {K : Int} {s s1 s2 : St} {c m D D' : Nat} {as : List Value} {z z' : Int} (hR : Rel K s) (h1 : OkI X D c (.ref 0 :: as) s (Is1 z s1)) (h2 : OkI X D' m (.ref 95 :: as) s1 (Is1 z' s2)) (hD : D ≤ 100) (hD' : D' ≤ 100) (e : z' = z) (k : Kept s s2) : Both X K s c m as := by
  subst e
  exact Both.ask hR (rg_of _) (h1.norm.more hD) (h2.norm.more hD') k
def orI (a b : Int) : Int := (iI a ||| iI b).toInt
def shI (l : Int) : Int := (iI 1 <<< (iI l &&& iI 31)).toInt
theorem orI_e (a b : Int) : iI a ||| iI b = iI (orI a b) := (iI_of _).symm
theorem shI_e (l : Int) : iI 1 <<< (iI l &&& 31) = iI (shI l) := (iI_of _).symm
theorem or0_e (a : Int) : iI a ||| iI 0 = iI a := by
  show iI a ||| (0 : Int32) = iI a
  exact Int32.or_zero
/-- the line at which k woods of S lead from l -/
def foE (C : Int → Int → Int) (S : Int → Int) : Nat → Int → Int
  | 0, l => l
  | k + 1, l => C (foE C S k l) (S k)
theorem foE_s {C : Int → Int → Int} {S : Int → Int} {l k : Int} (hk : 0 ≤ k) : foE C S (k + 1).toNat l = C (foE C S k.toNat l) (S k) := by
  rw [show (k + 1).toNat = k.toNat + 1 by omega]
  show C _ (S (k.toNat : Int)) = _
  rw [show ((k.toNat : Nat) : Int) = k by omega]
def frB (E : Int → Int) (e : Int) : Nat → Int
  | 0 => 0
  | l + 1 => if E l = e then orI (frB E e l) (shI l) else frB E e l
theorem frB_s {E : Int → Int} {e l : Int} (hl : 0 ≤ l) : frB E e (l + 1).toNat = if E l = e then orI (frB E e l.toNat) (shI l) else frB E e l.toNat := by
  rw [show (l + 1).toNat = l.toNat + 1 by omega]
  show (if E (l.toNat : Int) = e then orI _ (shI (l.toNat : Int)) else _) = _
  rw [show ((l.toNat : Nat) : Int) = l by omega]
theorem frB_cong {E E' : Int → Int} {e : Int} (n : Nat) (h : ∀ l, 0 ≤ l → l < (n : Int) → E l = E' l) : frB E e n = frB E' e n := by
  induction n with
  | zero => rfl
  | succ n ih =>
    show (if E n = e then orI (frB E e n) (shI n) else frB E e n) = (if E' n = e then orI (frB E' e n) (shI n) else frB E' e n)
    rw [ih (fun l a b => h l a (by omega)), h n (by omega) (by omega)]
theorem cfI_b {s : St} {t : Nat} (h : TaleOk s t) {l : Int} (w : Int) (h0 : -4 ≤ l) (h1 : l ≤ 9) : -4 ≤ cfI s t l w ∧ cfI s t l w ≤ 9 := by
  have := bhI_b h l w
  unfold cfI
  split <;> omega
theorem foE_b {s : St} {t : Nat} (h : TaleOk s t) {S : Int → Int} {l : Int} (h0 : -4 ≤ l) (h1 : l ≤ 9) : ∀ k : Nat, -4 ≤ foE (cfI s t) S k l ∧ foE (cfI s t) S k l ≤ 9 := by
  intro k
  induction k with
  | zero => exact ⟨h0, h1⟩
  | succ k ih => exact cfI_b h _ ih.1 ih.2
theorem foE_cl {C : Int → Int → Int} {S : Int → Int} {L l : Int} (hC : ∀ l w, 0 ≤ l → l < L → 0 ≤ w → w < 4 → 0 ≤ C l w ∧ C l w < L) (h0 : 0 ≤ l) (h1 : l < L) : ∀ k : Nat, (∀ j, 0 ≤ j → j < (k : Int) → 0 ≤ S j ∧ S j < 4) → 0 ≤ foE C S k l ∧ foE C S k l < L := by
  intro k
  induction k with
  | zero => intro _; exact ⟨h0, h1⟩
  | succ k ih =>
    intro hS
    have i := ih (fun j a b => hS j a (by omega))
    have q := hS k (by omega) (by omega)
    exact hC _ _ i.1 i.2 q.1 q.2
theorem foE_eq {C C' : Int → Int → Int} {S S' : Int → Int} {L l : Int} (hC : ∀ l w, 0 ≤ l → l < L → 0 ≤ w → w < 4 → 0 ≤ C l w ∧ C l w < L) (hE : ∀ l w, 0 ≤ l → l < L → 0 ≤ w → w < 4 → C' l w = C l w) (h0 : 0 ≤ l) (h1 : l < L) : ∀ k : Nat, (∀ j, 0 ≤ j → j < (k : Int) → S' j = S j ∧ 0 ≤ S j ∧ S j < 4) → foE C' S' k l = foE C S k l := by
  intro k
  induction k with
  | zero => intro _; rfl
  | succ k ih =>
    intro hS
    have i := ih (fun j a b => hS j a (by omega))
    have q := hS k (by omega) (by omega)
    have b := foE_cl hC h0 h1 (S := S) k (fun j a b => (hS j a (by omega)).2)
    show C' (foE C' S' k l) (S' k) = C (foE C S k l) (S k)
    rw [i, q.1, hE _ _ b.1 b.2 q.2.1 q.2.2]
set_option maxHeartbeats 1000000 in
set_option maxRecDepth 4000 in
theorem c_endOf {X : vX} {s : St} {t : Nat} (ht : isTale t) (hk : TaleOk s t) {r n a : Nat} (hr : isRow r n) (ea : r + 1 = a) (g0 : 0 ≤ vF s r 1) (g1 : vF s r 1 ≤ n) (g2 : n ≤ 100) (gS : ∀ j, 0 ≤ j → j < vF s r 1 → 0 ≤ vA s a j ∧ vA s a j < 4) {l : Int} (l0 : -4 ≤ l) (l1 : l ≤ 9) : OkI X 4 84 [.ref t, .int (iI l), .ref r] s (Is1 (foE (cfI s t) (vA s a) (vF s r 1).toNat l) s) := by
  refine Ok.of (r := vm_m84) (ls := [some (.ref t), some (.int (iI l)), some (.ref r), none, none]) rfl (Nat.le_of_ble_eq_true rfl) rfl (fun d hd => ?_)
  have hy := ht.1
  refine Gs_iload_n p84_0 rfl rfl ?_
  refine Gs_ist3 p84_1 (by first | rfl | assumption) ?_
  refine Gs_iconst p84_2 ?_
  refine Gs_ist4 p84_3 (by first | rfl | assumption) ?_
  refine dn (n := (vF s r 1)) (P := fun q => Gs X d 84 5 [some (.ref t), some (.int (iI l)), some (.ref r), some (.int (iI (foE (cfI s t) (vA s a) q.toNat l))), some (.int (iI q))] [] (s) _) (by omega) (fun q hq hqn ih => ?_) ?_
  · show Gs X d 84 5 [some (.ref t), some (.int (iI l)), some (.ref r), some (.int (iI (foE (cfI s t) (vA s a) q.toNat l))), some (.int (iI q))] [] (s) _
    have fb := foE_b hk (S := vA s a) l0 l1 q.toNat
    have sb := gS q (by omega) (by omega)
    refine Gs_iload p84_5 rfl rfl ?_
    refine Gs_aload_n p84_7 rfl rfl ?_
    refine Gs_callV0I p84_8 (by rfl) (by rfl) hr.1 (Nat.le_of_ble_eq_true rfl) (by decide) (c_size hr) (by omega) ?_
    refine Gs_icmp_ge (tgt := 32) p84_11 (by rfl) (by first | assumption | exact ⟨by omega, by omega⟩ | (split <;> exact ⟨by omega, by omega⟩)) (by first | assumption | exact ⟨by omega, by omega⟩ | (split <;> exact ⟨by omega, by omega⟩)) (fun hc11 => absurd ‹_› (by first | omega | assumption)) (fun hc11 => ?_)
    refine Gs_aload_n p84_14 rfl rfl ?_
    refine Gs_iload_n p84_15 rfl rfl ?_
    refine Gs_aload_n p84_16 rfl rfl ?_
    refine Gs_iload p84_17 rfl rfl ?_
    refine Gs_callV1I p84_19 (by rfl) (by rfl) hr.1 (Nat.le_of_ble_eq_true rfl) (by decide) (c_agot hr ea ⟨by omega, by omega⟩ (by omega) (by omega) (by omega) (by omega)) (by omega) ?_
    refine Gs_callV2I p84_22 (by rfl) (by rfl) hy (Nat.le_of_ble_eq_true rfl) (by decide) (c_comingFrom ht hk ⟨by omega, by omega⟩ ⟨by omega, by omega⟩) (by omega) ?_
    refine Gs_ist3 p84_25 (by first | rfl | assumption) ?_
    refine Gs_iinc4 (b54 := none) p84_26 (by first | rfl | assumption) ?_
    refine Gs_goto (tgt := 5) p84_29 (by rfl) ?_
    rw [foE_s (by omega)] at ih
    exact ih
  · show Gs X d 84 5 [some (.ref t), some (.int (iI l)), some (.ref r), some (.int (iI (foE (cfI s t) (vA s a) ((vF s r 1)).toNat l))), some (.int (iI ((vF s r 1))))] [] (s) _
    refine Gs_iload p84_5 rfl rfl ?_
    refine Gs_aload_n p84_7 rfl rfl ?_
    refine Gs_callV0I p84_8 (by rfl) (by rfl) hr.1 (Nat.le_of_ble_eq_true rfl) (by decide) (c_size hr) (by omega) ?_
    refine Gs_icmp_ge (tgt := 32) p84_11 (by rfl) (by first | assumption | exact ⟨by omega, by omega⟩ | (split <;> exact ⟨by omega, by omega⟩)) (by first | assumption | exact ⟨by omega, by omega⟩ | (split <;> exact ⟨by omega, by omega⟩)) (fun hc11 => ?_) (fun hc11 => absurd ‹_› (by first | omega | assumption))
    refine Gs_iload_n p84_32 rfl rfl ?_
    refine Gs_iret p84_33 rfl ⟨_, rfl, ?_⟩
    exact ⟨rfl, rfl⟩

set_option maxHeartbeats 1000000 in
set_option maxRecDepth 4000 in
theorem c_origins {X : vX} {s : St} {t : Nat} (ht : isTale t) (hk : TaleOk s t) {r n a : Nat} (hr : isRow r n) (ea : r + 1 = a) (g0 : 0 ≤ vF s r 1) (g1 : vF s r 1 ≤ n) (g2 : n ≤ 100) (gS : ∀ j, 0 ≤ j → j < vF s r 1 → 0 ≤ vA s a j ∧ vA s a j < 4) {e : Int} (e0 : rg e) : OkI X 5 83 [.ref t, .ref r, .int (iI e)] s (Is1 (frB (fun l => foE (cfI s t) (vA s a) (vF s r 1).toNat l) e (vF s t 4).toNat) s) := by
  refine Ok.of (r := vm_m83) (ls := [some (.ref t), some (.ref r), some (.int (iI e)), none, none]) rfl (Nat.le_of_ble_eq_true rfl) rfl (fun d hd => ?_)
  have hy := ht.1
  obtain ⟨k1, k2, k3, k4, k5, k6, k7⟩ := id hk
  refine Gs_iconst p83_0 ?_
  refine Gs_ist3 p83_1 (by first | rfl | assumption) ?_
  refine Gs_iconst p83_2 ?_
  refine Gs_ist4 p83_3 (by first | rfl | assumption) ?_
  refine dn (n := (vF s t 4)) (P := fun i => Gs X d 83 5 [some (.ref t), some (.ref r), some (.int (iI e)), some (.int (iI (frB (fun l => foE (cfI s t) (vA s a) (vF s r 1).toNat l) e i.toNat))), some (.int (iI i))] [] (s) _) (by omega) (fun i hi hin ih => ?_) ?_
  · show Gs X d 83 5 [some (.ref t), some (.ref r), some (.int (iI e)), some (.int (iI (frB (fun l => foE (cfI s t) (vA s a) (vF s r 1).toNat l) e i.toNat))), some (.int (iI i))] [] (s) _
    have fb := foE_b hk (S := vA s a) (l := i) (by omega) (by omega) (vF s r 1).toNat
    refine Gs_iload p83_5 rfl rfl ?_
    refine Gs_aload_n p83_7 rfl rfl ?_
    refine Gs_getI p83_8 (by first | rfl | assumption | exact (show isTale _ from by assumption).1 | exact (show isCamp _ _ from by assumption).1 | exact (show isRow _ _ from by assumption).1) (by rfl) ?_
    refine Gs_icmp_ge (tgt := 38) p83_11 (by rfl) (by first | assumption | exact ⟨by omega, by omega⟩ | (split <;> exact ⟨by omega, by omega⟩)) (by first | assumption | exact ⟨by omega, by omega⟩ | (split <;> exact ⟨by omega, by omega⟩)) (fun hc11 => absurd ‹_› (by first | omega | assumption)) (fun hc11 => ?_)
    refine Gs_aload_n p83_14 rfl rfl ?_
    refine Gs_iload p83_15 rfl rfl ?_
    refine Gs_aload_n p83_17 rfl rfl ?_
    refine Gs_callV2I p83_18 (by rfl) (by rfl) hy (Nat.le_of_ble_eq_true rfl) (by decide) (c_endOf ht hk hr ea g0 g1 g2 gS (by omega) (by omega)) (by omega) ?_
    refine Gs_iload_n p83_21 rfl rfl ?_
    refine Gs_icmp_ne (tgt := 32) p83_22 (by rfl) (by first | assumption | exact ⟨by omega, by omega⟩ | (split <;> exact ⟨by omega, by omega⟩)) (by first | assumption | exact ⟨by omega, by omega⟩ | (split <;> exact ⟨by omega, by omega⟩)) (fun h22 => ?_) (fun h22 => ?_)
    · refine Gs_iinc4 (b54 := none) p83_32 (by first | rfl | assumption) ?_
      refine Gs_goto (tgt := 5) p83_35 (by rfl) ?_
      rw [frB_s hi] at ih
      first
        | (rw [if_pos (by assumption)] at ih; exact ih)
        | (rw [if_neg (by assumption)] at ih; exact ih)
        | (rw [if_pos (by omega)] at ih; exact ih)
    · refine Gs_iload_n p83_25 rfl rfl ?_
      refine Gs_iconst p83_26 ?_
      refine Gs_iload p83_27 rfl rfl ?_
      refine Gs_ishl p83_29 (shI_e _) ?_
      refine Gs_ior p83_30 (orI_e _ _) ?_
      refine Gs_ist3 p83_31 (by first | rfl | assumption) ?_
      refine Gs_iinc4 (b54 := none) p83_32 (by first | rfl | assumption) ?_
      refine Gs_goto (tgt := 5) p83_35 (by rfl) ?_
      rw [frB_s hi] at ih
      first
        | (rw [if_pos (by assumption)] at ih; exact ih)
        | (rw [if_neg (by assumption)] at ih; exact ih)
        | (rw [if_pos (by omega)] at ih; exact ih)
  · show Gs X d 83 5 [some (.ref t), some (.ref r), some (.int (iI e)), some (.int (iI (frB (fun l => foE (cfI s t) (vA s a) (vF s r 1).toNat l) e ((vF s t 4)).toNat))), some (.int (iI ((vF s t 4))))] [] (s) _
    refine Gs_iload p83_5 rfl rfl ?_
    refine Gs_aload_n p83_7 rfl rfl ?_
    refine Gs_getI p83_8 (by first | rfl | assumption | exact (show isTale _ from by assumption).1 | exact (show isCamp _ _ from by assumption).1 | exact (show isRow _ _ from by assumption).1) (by rfl) ?_
    refine Gs_icmp_ge (tgt := 38) p83_11 (by rfl) (by first | assumption | exact ⟨by omega, by omega⟩ | (split <;> exact ⟨by omega, by omega⟩)) (by first | assumption | exact ⟨by omega, by omega⟩ | (split <;> exact ⟨by omega, by omega⟩)) (fun hc11 => ?_) (fun hc11 => absurd ‹_› (by first | omega | assumption))
    refine Gs_iload_n p83_38 rfl rfl ?_
    refine Gs_iret p83_39 rfl ⟨_, rfl, ?_⟩
    exact ⟨rfl, rfl⟩

set_option maxHeartbeats 1000000 in
set_option maxRecDepth 4000 in
theorem k_from {X : vX} {s : St} {k n : Int} (hz : rg k) (hT : TaleOk s 5) (hC : CampOk s 14 n) (g0 : 0 ≤ vF s 3 1) (g1 : vF s 3 1 ≤ 6) (gS : ∀ j, 0 ≤ j → j < vF s 3 1 → 0 ≤ vA s 4 j ∧ vA s 4 j < 4) : OkI X 6 114 [.ref 0, .int (iI k)] s (Is1 (if 0 ≤ k ∧ k < n then (if 1 ≤ cg s 14 k 0 then frB (fun l => foE (cfI s 5) (vA s 4) (vF s 3 1).toNat l) (cg s 14 k 1) (vF s 5 4).toNat else -2) else -1) s) := by
  refine Ok.of (r := vm_m114) (ls := [some (.ref 0), some (.int (iI k))]) rfl (Nat.le_of_ble_eq_true rfl) rfl (fun d hd => ?_)
  refine Gs_aload_n p114_0 rfl rfl ?_
  refine Gs_getR p114_1 (by first | rfl | assumption | exact (show isTale _ from by assumption).1 | exact (show isCamp _ _ from by assumption).1 | exact (show isRow _ _ from by assumption).1) (by rfl) ?_
  refine Gs_iload_n p114_4 rfl rfl ?_
  refine Gs_callV1I p114_5 (by rfl) (by rfl) (by first | rfl | assumption | exact (show isTale _ from by assumption).1 | exact (show isCamp _ _ from by assumption).1 | exact (show isRow _ _ from by assumption).1) (Nat.le_of_ble_eq_true rfl) (by decide) (c_isCompany camp14 hC hz) (by omega) ?_
  refine Gs_ifb_ne (tgt := 13) p114_8 (by rfl) (fun h8 => ?_) (fun h8 => ?_)
  · refine Gs_aload_n p114_13 rfl rfl ?_
    refine Gs_getR p114_14 (by first | rfl | assumption | exact (show isTale _ from by assumption).1 | exact (show isCamp _ _ from by assumption).1 | exact (show isRow _ _ from by assumption).1) (by rfl) ?_
    refine Gs_iload_n p114_17 rfl rfl ?_
    refine Gs_callV1I p114_18 (by rfl) (by rfl) (by first | rfl | assumption | exact (show isTale _ from by assumption).1 | exact (show isCamp _ _ from by assumption).1 | exact (show isRow _ _ from by assumption).1) (Nat.le_of_ble_eq_true rfl) (by decide) (c_isIn camp14 hC (by omega) (by omega)) (by omega) ?_
    refine Gs_ifb_eq (tgt := 47) p114_21 (by rfl) (fun h21 => ?_) (fun h21 => ?_)
    · refine Gs_bipush p114_47 (by decide) ?_
      refine Gs_iret p114_49 rfl ⟨_, rfl, ?_⟩
      first
        | (rw [if_pos (by omega), if_pos (by omega)]; exact ⟨rfl, rfl⟩)
        | (rw [if_pos (by omega), if_neg (by omega)]; exact ⟨rfl, rfl⟩)
        | (rw [if_neg (by omega)]; exact ⟨rfl, rfl⟩)
    · refine Gs_aload_n p114_24 rfl rfl ?_
      refine Gs_getR p114_25 (by first | rfl | assumption | exact (show isTale _ from by assumption).1 | exact (show isCamp _ _ from by assumption).1 | exact (show isRow _ _ from by assumption).1) (by rfl) ?_
      refine Gs_aload_n p114_28 rfl rfl ?_
      refine Gs_getR p114_29 (by first | rfl | assumption | exact (show isTale _ from by assumption).1 | exact (show isCamp _ _ from by assumption).1 | exact (show isRow _ _ from by assumption).1) (by rfl) ?_
      refine Gs_aload_n p114_32 rfl rfl ?_
      refine Gs_getR p114_33 (by first | rfl | assumption | exact (show isTale _ from by assumption).1 | exact (show isCamp _ _ from by assumption).1 | exact (show isRow _ _ from by assumption).1) (by rfl) ?_
      refine Gs_iload_n p114_36 rfl rfl ?_
      refine Gs_iconst p114_37 ?_
      refine Gs_callV2I p114_38 (by rfl) (by rfl) (by first | rfl | assumption | exact (show isTale _ from by assumption).1 | exact (show isCamp _ _ from by assumption).1 | exact (show isRow _ _ from by assumption).1) (Nat.le_of_ble_eq_true rfl) (by decide) (c_Cget camp14 hC (by omega) (by omega) (by omega) (by omega)) (by omega) ?_
      refine Gs_callV2I p114_41 (by rfl) (by rfl) (by first | rfl | assumption | exact (show isTale _ from by assumption).1 | exact (show isCamp _ _ from by assumption).1 | exact (show isRow _ _ from by assumption).1) (Nat.le_of_ble_eq_true rfl) (by decide) (c_origins (a := 4) tale5 hT row3 rfl (by omega) (by omega) (by decide) gS (by have := hC.r (k := k) (w := 1) (by omega) (by omega) (by omega) (by omega); exact ⟨by omega, by omega⟩)) (by omega) ?_
      refine Gs_goto (tgt := 49) p114_44 (by rfl) ?_
      refine Gs_iret p114_49 rfl ⟨_, rfl, ?_⟩
      first
        | (rw [if_pos (by omega), if_pos (by omega)]; exact ⟨rfl, rfl⟩)
        | (rw [if_pos (by omega), if_neg (by omega)]; exact ⟨rfl, rfl⟩)
        | (rw [if_neg (by omega)]; exact ⟨rfl, rfl⟩)
  · refine Gs_iconst p114_11 ?_
    refine Gs_iret p114_12 rfl ⟨_, rfl, ?_⟩
    first
      | (rw [if_pos (by omega), if_pos (by omega)]; exact ⟨rfl, rfl⟩)
      | (rw [if_pos (by omega), if_neg (by omega)]; exact ⟨rfl, rfl⟩)
      | (rw [if_neg (by omega)]; exact ⟨rfl, rfl⟩)

set_option maxHeartbeats 1000000 in
set_option maxRecDepth 4000 in
theorem m_from {X : vX} {s : St} {c : Int} (hz : rg c) (hT : MT s) (hm : MC s 98 (vA s 96 2)) (hcl : ∀ l w, 0 ≤ l → l < vA s 96 0 → 0 ≤ w → w < 4 → 0 ≤ cfM s l w ∧ cfM s l w < vA s 96 0) (g0 : 0 ≤ vF s 95 9) (g1 : vF s 95 9 ≤ 6) (gS : ∀ j, 0 ≤ j → j < vF s 95 9 → 0 ≤ vA s 102 j ∧ vA s 102 j < 4) : OkI X 3 192 [.ref 95, .int (iI c)] s (Is1 (if 0 ≤ c ∧ c < vA s 96 2 then (if 0 < vA s 98 c then frB (fun l => foE (cfM s) (vA s 102) (vF s 95 9).toNat l) (vA s 98 (4 + c)) (vA s 96 0).toNat else -2) else -1) s) := by
  refine Ok.of (r := vm_m192) (ls := [some (.ref 95), some (.int (iI c)), none, none, none, none]) rfl (Nat.le_of_ble_eq_true rfl) rfl (fun d hd => ?_)
  obtain ⟨a1, a2, a3, a4, a5, a6, a7, a8⟩ := id hT
  obtain ⟨m1, m2, m3, m4⟩ := id hm
  refine Gs_aload_n p192_0 rfl rfl ?_
  refine Gs_iload_n p192_1 rfl rfl ?_
  refine Gs_callV1I p192_2 (by rfl) (by rfl) (by first | rfl | assumption | exact (show isTale _ from by assumption).1 | exact (show isCamp _ _ from by assumption).1 | exact (show isRow _ _ from by assumption).1) (Nat.le_of_ble_eq_true rfl) (by decide) (c_misCompany hT hz) (by omega) ?_
  refine Gs_ifb_ne (tgt := 10) p192_5 (by rfl) (fun h5 => ?_) (fun h5 => ?_)
  · refine Gs_aload_n p192_10 rfl rfl ?_
    refine Gs_iload_n p192_11 rfl rfl ?_
    refine Gs_callV1I p192_12 (by rfl) (by rfl) (by first | rfl | assumption | exact (show isTale _ from by assumption).1 | exact (show isCamp _ _ from by assumption).1 | exact (show isRow _ _ from by assumption).1) (Nat.le_of_ble_eq_true rfl) (by decide) (c_misIn hm (by omega) (by omega)) (by omega) ?_
    refine Gs_ifb_ne (tgt := 21) p192_15 (by rfl) (fun h15 => ?_) (fun h15 => ?_)
    · have b4 := (m4 c (by omega) (by omega)).1
      refine Gs_iconst p192_21 ?_
      refine Gs_ist2 p192_22 (by first | rfl | assumption) ?_
      refine Gs_iconst p192_23 ?_
      refine Gs_ist3 p192_24 (by first | rfl | assumption) ?_
      refine dn (n := (vA s 96 0)) (P := fun i => ∀ b4 b5 : Option Value, Gs X d 192 25 [some (.ref 95), some (.int (iI c)), some (.int (iI (frB (fun l => foE (cfM s) (vA s 102) (vF s 95 9).toNat l) (vA s 98 (4 + c)) i.toNat))), some (.int (iI i)), b4, b5] [] (s) (fun vv yy => ∃ zz : Int, vv = some (.int (iI zz)) ∧ (Is1 (if 0 ≤ c ∧ c < vA s 96 2 then (if 0 < vA s 98 c then frB (fun l => foE (cfM s) (vA s 102) (vF s 95 9).toNat l) (vA s 98 (4 + c)) (vA s 96 0).toNat else -2) else -1) s) zz yy)) (by omega) (fun i hi hin ih => ?_) ?_ none none
      · show ∀ b4 b5 : Option Value, Gs X d 192 25 [some (.ref 95), some (.int (iI c)), some (.int (iI (frB (fun l => foE (cfM s) (vA s 102) (vF s 95 9).toNat l) (vA s 98 (4 + c)) i.toNat))), some (.int (iI i)), b4, b5] [] (s) _
        intro c4 c5
        refine Gs_iload_n p192_25 rfl rfl ?_
        refine Gs_aload_n p192_26 rfl rfl ?_
        refine Gs_getR p192_27 (by first | rfl | assumption | exact (show isTale _ from by assumption).1 | exact (show isCamp _ _ from by assumption).1 | exact (show isRow _ _ from by assumption).1) (by rfl) ?_
        refine Gs_iconst p192_30 ?_
        refine Gs_iald p192_31 (by first | rfl | assumption | exact (show isTale _ from by assumption).1 | exact (show isCamp _ _ from by assumption).1 | exact (show isRow _ _ from by assumption).1) (by omega) (by omega) (by omega) ?_
        refine Gs_icmp_ge (tgt := 100) p192_32 (by rfl) (by first | assumption | exact ⟨by omega, by omega⟩ | (split <;> exact ⟨by omega, by omega⟩)) (by first | assumption | exact ⟨by omega, by omega⟩ | (split <;> exact ⟨by omega, by omega⟩)) (fun hc32 => absurd ‹_› (by first | omega | assumption)) (fun hc32 => ?_)
        refine Gs_iload_n p192_35 rfl rfl ?_
        refine Gs_ist4 p192_36 (by first | rfl | assumption) ?_
        refine Gs_iconst p192_38 ?_
        refine Gs_ist5 p192_39 (by first | rfl | assumption) ?_
        refine dn (n := (vF s 95 9)) (P := fun k => Gs X d 192 41 [some (.ref 95), some (.int (iI c)), some (.int (iI (frB (fun l => foE (cfM s) (vA s 102) (vF s 95 9).toNat l) (vA s 98 (4 + c)) i.toNat))), some (.int (iI i)), some (.int (iI (foE (cfM s) (vA s 102) k.toNat i))), some (.int (iI k))] [] (s) _) (by omega) (fun k hk hkn ih2 => ?_) ?_
        · show Gs X d 192 41 [some (.ref 95), some (.int (iI c)), some (.int (iI (frB (fun l => foE (cfM s) (vA s 102) (vF s 95 9).toNat l) (vA s 98 (4 + c)) i.toNat))), some (.int (iI i)), some (.int (iI (foE (cfM s) (vA s 102) k.toNat i))), some (.int (iI k))] [] (s) _
          have fb := foE_cl hcl hi hin (S := vA s 102) k.toNat (fun j x y => gS j x (by omega))
          have sb := gS k (by omega) (by omega)
          refine Gs_iload p192_41 rfl rfl ?_
          refine Gs_aload_n p192_43 rfl rfl ?_
          refine Gs_getI p192_44 (by first | rfl | assumption | exact (show isTale _ from by assumption).1 | exact (show isCamp _ _ from by assumption).1 | exact (show isRow _ _ from by assumption).1) (by rfl) ?_
          refine Gs_icmp_ge (tgt := 71) p192_47 (by rfl) (by first | assumption | exact ⟨by omega, by omega⟩ | (split <;> exact ⟨by omega, by omega⟩)) (by first | assumption | exact ⟨by omega, by omega⟩ | (split <;> exact ⟨by omega, by omega⟩)) (fun hc47 => absurd ‹_› (by first | omega | assumption)) (fun hc47 => ?_)
          refine Gs_aload_n p192_50 rfl rfl ?_
          refine Gs_iload p192_51 rfl rfl ?_
          refine Gs_aload_n p192_53 rfl rfl ?_
          refine Gs_getR p192_54 (by first | rfl | assumption | exact (show isTale _ from by assumption).1 | exact (show isCamp _ _ from by assumption).1 | exact (show isRow _ _ from by assumption).1) (by rfl) ?_
          refine Gs_iload p192_57 rfl rfl ?_
          refine Gs_iald p192_59 (by first | rfl | assumption | exact (show isTale _ from by assumption).1 | exact (show isCamp _ _ from by assumption).1 | exact (show isRow _ _ from by assumption).1) (by omega) (by omega) (by omega) ?_
          refine Gs_callV2I p192_60 (by rfl) (by rfl) (by first | rfl | assumption | exact (show isTale _ from by assumption).1 | exact (show isCamp _ _ from by assumption).1 | exact (show isRow _ _ from by assumption).1) (Nat.le_of_ble_eq_true rfl) (by decide) (c_mgoes hT fb.1 fb.2 sb.1 sb.2) (by omega) ?_
          refine Gs_ist4 p192_63 (by first | rfl | assumption) ?_
          refine Gs_iinc5 (b55 := none) p192_65 (by first | rfl | assumption) ?_
          refine Gs_goto (tgt := 41) p192_68 (by rfl) ?_
          rw [foE_s (by omega)] at ih2
          exact ih2
        · show Gs X d 192 41 [some (.ref 95), some (.int (iI c)), some (.int (iI (frB (fun l => foE (cfM s) (vA s 102) (vF s 95 9).toNat l) (vA s 98 (4 + c)) i.toNat))), some (.int (iI i)), some (.int (iI (foE (cfM s) (vA s 102) ((vF s 95 9)).toNat i))), some (.int (iI ((vF s 95 9))))] [] (s) _
          have fb := foE_cl hcl hi hin (S := vA s 102) (vF s 95 9).toNat (fun j x y => gS j x (by omega))
          refine Gs_iload p192_41 rfl rfl ?_
          refine Gs_aload_n p192_43 rfl rfl ?_
          refine Gs_getI p192_44 (by first | rfl | assumption | exact (show isTale _ from by assumption).1 | exact (show isCamp _ _ from by assumption).1 | exact (show isRow _ _ from by assumption).1) (by rfl) ?_
          refine Gs_icmp_ge (tgt := 71) p192_47 (by rfl) (by first | assumption | exact ⟨by omega, by omega⟩ | (split <;> exact ⟨by omega, by omega⟩)) (by first | assumption | exact ⟨by omega, by omega⟩ | (split <;> exact ⟨by omega, by omega⟩)) (fun hc47 => ?_) (fun hc47 => absurd ‹_› (by first | omega | assumption))
          refine Gs_iload_n p192_71 rfl rfl ?_
          refine Gs_iload p192_72 rfl rfl ?_
          refine Gs_aload_n p192_74 rfl rfl ?_
          refine Gs_getR p192_75 (by first | rfl | assumption | exact (show isTale _ from by assumption).1 | exact (show isCamp _ _ from by assumption).1 | exact (show isRow _ _ from by assumption).1) (by rfl) ?_
          refine Gs_iconst p192_78 ?_
          refine Gs_iload_n p192_79 rfl rfl ?_
          refine Gs_iadd p192_80 ?_
          refine Gs_iald p192_81 (by first | rfl | assumption | exact (show isTale _ from by assumption).1 | exact (show isCamp _ _ from by assumption).1 | exact (show isRow _ _ from by assumption).1) (by omega) (by omega) (by omega) ?_
          refine Gs_icmp_ne (tgt := 91) p192_82 (by rfl) (by first | assumption | exact ⟨by omega, by omega⟩ | (split <;> exact ⟨by omega, by omega⟩)) (by first | assumption | exact ⟨by omega, by omega⟩ | (split <;> exact ⟨by omega, by omega⟩)) (fun h82 => ?_) (fun h82 => ?_)
          · refine Gs_iconst p192_91 ?_
            first
              | (refine Gs_ior p192_92 (or0_e _) ?_)
              | (refine Gs_ior p192_92 (orI_e _ _) ?_)
            refine Gs_ist2 p192_93 (by first | rfl | assumption) ?_
            refine Gs_iinc3 (b53 := none) p192_94 (by first | rfl | assumption) ?_
            refine Gs_goto (tgt := 25) p192_97 (by rfl) ?_
            have ih3 := ih (some (.int (iI (foE (cfM s) (vA s 102) (vF s 95 9).toNat i)))) (some (.int (iI (vF s 95 9))))
            rw [frB_s hi] at ih3
            first
              | (rw [if_pos (by assumption)] at ih3; exact ih3)
              | (rw [if_neg (by assumption)] at ih3; exact ih3)
              | (rw [if_pos (by omega)] at ih3; exact ih3)
          · refine Gs_iconst p192_85 ?_
            refine Gs_iload_n p192_86 rfl rfl ?_
            refine Gs_ishl p192_87 (shI_e _) ?_
            refine Gs_goto (tgt := 92) p192_88 (by rfl) ?_
            first
              | (refine Gs_ior p192_92 (or0_e _) ?_)
              | (refine Gs_ior p192_92 (orI_e _ _) ?_)
            refine Gs_ist2 p192_93 (by first | rfl | assumption) ?_
            refine Gs_iinc3 (b53 := none) p192_94 (by first | rfl | assumption) ?_
            refine Gs_goto (tgt := 25) p192_97 (by rfl) ?_
            have ih3 := ih (some (.int (iI (foE (cfM s) (vA s 102) (vF s 95 9).toNat i)))) (some (.int (iI (vF s 95 9))))
            rw [frB_s hi] at ih3
            first
              | (rw [if_pos (by assumption)] at ih3; exact ih3)
              | (rw [if_neg (by assumption)] at ih3; exact ih3)
              | (rw [if_pos (by omega)] at ih3; exact ih3)
      · show ∀ b4 b5 : Option Value, Gs X d 192 25 [some (.ref 95), some (.int (iI c)), some (.int (iI (frB (fun l => foE (cfM s) (vA s 102) (vF s 95 9).toNat l) (vA s 98 (4 + c)) ((vA s 96 0)).toNat))), some (.int (iI ((vA s 96 0)))), b4, b5] [] (s) _
        intro c4 c5
        refine Gs_iload_n p192_25 rfl rfl ?_
        refine Gs_aload_n p192_26 rfl rfl ?_
        refine Gs_getR p192_27 (by first | rfl | assumption | exact (show isTale _ from by assumption).1 | exact (show isCamp _ _ from by assumption).1 | exact (show isRow _ _ from by assumption).1) (by rfl) ?_
        refine Gs_iconst p192_30 ?_
        refine Gs_iald p192_31 (by first | rfl | assumption | exact (show isTale _ from by assumption).1 | exact (show isCamp _ _ from by assumption).1 | exact (show isRow _ _ from by assumption).1) (by omega) (by omega) (by omega) ?_
        refine Gs_icmp_ge (tgt := 100) p192_32 (by rfl) (by first | assumption | exact ⟨by omega, by omega⟩ | (split <;> exact ⟨by omega, by omega⟩)) (by first | assumption | exact ⟨by omega, by omega⟩ | (split <;> exact ⟨by omega, by omega⟩)) (fun hc32 => ?_) (fun hc32 => absurd ‹_› (by first | omega | assumption))
        refine Gs_iload_n p192_100 rfl rfl ?_
        refine Gs_iret p192_101 rfl ⟨_, rfl, ?_⟩
        first
          | (rw [if_pos (by omega), if_pos (by omega)]; exact ⟨rfl, rfl⟩)
          | (rw [if_pos (by omega), if_neg (by omega)]; exact ⟨rfl, rfl⟩)
          | (rw [if_neg (by omega)]; exact ⟨rfl, rfl⟩)
    · refine Gs_bipush p192_18 (by decide) ?_
      refine Gs_iret p192_20 rfl ⟨_, rfl, ?_⟩
      first
        | (rw [if_pos (by omega), if_pos (by omega)]; exact ⟨rfl, rfl⟩)
        | (rw [if_pos (by omega), if_neg (by omega)]; exact ⟨rfl, rfl⟩)
        | (rw [if_neg (by omega)]; exact ⟨rfl, rfl⟩)
  · refine Gs_iconst p192_8 ?_
    refine Gs_iret p192_9 rfl ⟨_, rfl, ?_⟩
    first
      | (rw [if_pos (by omega), if_pos (by omega)]; exact ⟨rfl, rfl⟩)
      | (rw [if_pos (by omega), if_neg (by omega)]; exact ⟨rfl, rfl⟩)
      | (rw [if_neg (by omega)]; exact ⟨rfl, rfl⟩)

theorem RelTale.clM {s : St} (h : RelTale s) : ∀ l w, 0 ≤ l → l < vA s 96 0 → 0 ≤ w → w < 4 → 0 ≤ cfM s l w ∧ cfM s l w < vA s 96 0 := fun l w b0 b1 b2 b3 => by
  have e := h.2.2.1
  rw [h.cf b0 (by omega) b2 b3, e]
  exact h.cf_line b0 (by omega)
theorem T_from {X : vX} {K : Int} {s : St} (hR : Rel K s) (hK : K < 512) {x1 : Int} (g1 : rg x1) : Both X K s 114 192 [.int (iI x1)] := by
  obtain ⟨h0, h1, h2, h3, h4, h5, h6⟩ := id hR
  obtain ⟨s1, s2, s3, s4⟩ := id h2
  refine Both.n hR (k_from g1 h3.1 h4.1 s1 s2 (fun j a b => (s4 j a b).2)) (m_from g1 hR.MT h4.mc h3.clM (by omega) (by omega) (fun j a b => by rw [(s4 j a (by omega)).1]; exact (s4 j a (by omega)).2)) (by decide) (by decide) ?_ (Kept.rfl' s)
  by_cases c : 0 ≤ x1 ∧ x1 < vA s 96 2
  · rw [if_pos c, if_pos c, h4.v0 c.1 c.2 (w := 0) (by omega) (by omega), h4.v0 c.1 c.2 (w := 1) (by omega) (by omega), mi_0, mi_1]
    by_cases c2 : 0 < vA s 98 x1
    · rw [if_pos c2, if_pos (by omega), h3.2.2.1]
      refine frB_cong _ (fun l b0 b1 => ?_)
      rw [s3]
      exact foE_eq (L := vF s 5 4) (fun l w a b _ _ => h3.cf_line a b) (fun l w a b d e => h3.cf a b d e) b0 (by omega) _ (fun j a b => ⟨(s4 j a (by omega)).1, (s4 j a (by omega)).2⟩)
    · rw [if_neg c2, if_neg (by omega)]
  · rw [if_neg c, if_neg c]