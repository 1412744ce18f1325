/-! rains: the reference -/
def euT : Nat → Nat → Nat → Prop
  | 0, _, b => b = 0
  | f + 1, a, b => b = 0 ∨ euT f b (a % b)
theorem euT_zero (f a : Nat) : euT f a 0 := by cases f; exact rfl; exact Or.inl rfl
theorem euT_fin : ∀ (k f a b : Nat), b < 2 ^ k → 2 * k ≤ f → euT f a b := by
  intro k
  induction k with
  | zero =>
    intro f a b hb _
    have : b = 0 := by rw [Nat.pow_zero] at hb; omega
    rw [this]; exact euT_zero f a
  | succ k ih =>
    intro f a b hb hf
    by_cases b0 : b = 0
    · rw [b0]; exact euT_zero f a
    · obtain ⟨f', rfl⟩ : ∃ f', f = f' + 1 + 1 := ⟨f - 2, by omega⟩
      refine Or.inr ?_
      by_cases r0 : a % b = 0
      · exact Or.inl r0
      · have l1 : a % b < b := Nat.mod_lt _ (by omega)
        have l2 : b % (a % b) < a % b := Nat.mod_lt _ (by omega)
        have l3 : b % (a % b) ≤ b - a % b := by
          rw [Nat.mod_eq_sub_mod (by omega)]
          exact Nat.mod_le _ _
        exact Or.inr (ih f' (a % b) (b % (a % b)) (by rw [Nat.pow_succ] at hb; omega) (by omega))
theorem gcd_step (a b : Nat) : Nat.gcd b (a % b) = Nat.gcd a b := by rw [Nat.gcd_comm a b, Nat.gcd_rec b a, Nat.gcd_comm]
def raL (part : Int) (a b : Nat) : Int := if part = 0 then ((a / Nat.gcd a b : Nat) : Int) else ((b / Nat.gcd a b : Nat) : Int)
set_option maxHeartbeats 1000000 in
set_option maxRecDepth 4000 in
theorem c_lowest {X : vX} {s : St} {a b : Nat} {part : Int} (a1 : a ≤ 100000000) (b0 : 0 < b) (b1 : b ≤ 100000000) (gp : rg part) : OkI X 0 194 [.long (iL ((a : Nat) : Int)), .long (iL ((b : Nat) : Int)), .int (iI part)] s (Is1 (raL part a b) s) := by
  refine Ok.of (r := vm_m194) (ls := [some (.long (iL ((a : Nat) : Int))), none, some (.long (iL ((b : Nat) : Int))), none, some (.int (iI part)), none, none, none, none, none, none]) rfl (Nat.le_of_ble_eq_true rfl) rfl (fun d hd => ?_)
  have t27 : (2 : Nat) ^ 27 = 134217728 := by decide
  have et0 : euT 100 a b := euT_fin 27 100 a b (by omega) (by omega)
  have et1 : euT ((100 : Int) - 0).toNat a b := by
    rw [show ((100 : Int) - 0).toNat = 100 from rfl]
    exact et0
  refine Gs_lload_n p194_0 rfl rfl ?_
  refine Gs_lst5 p194_1 (by first | rfl | assumption) ?_
  refine Gs_lload_n p194_3 rfl rfl ?_
  refine Gs_lst7 p194_4 (by first | rfl | assumption) ?_
  refine dn (n := (100 : Int)) (P := fun i => ∀ (A B : Nat) (b9 : Option Value), A ≤ 100000000 → B ≤ 100000000 → Nat.gcd A B = Nat.gcd a b → euT (100 - i).toNat A B → Gs X d 194 6 [some (.long (iL ((a : Nat) : Int))), none, some (.long (iL ((b : Nat) : Int))), none, some (.int (iI part)), some (.long (iL ((A : Nat) : Int))), none, some (.long (iL ((B : Nat) : Int))), none, b9, none] [] (s) (fun vv yy => ∃ zz : Int, vv = some (.int (iI zz)) ∧ (fun z u => z = raL part a b ∧ u = s) zz yy)) (by omega) (fun i hi hin ih => ?_) ?_ a b none a1 b1 rfl et1
  · show ∀ (A B : Nat) (b9 : Option Value), A ≤ 100000000 → B ≤ 100000000 → Nat.gcd A B = Nat.gcd a b → euT (100 - i).toNat A B → Gs X d 194 6 [some (.long (iL ((a : Nat) : Int))), none, some (.long (iL ((b : Nat) : Int))), none, some (.int (iI part)), some (.long (iL ((A : Nat) : Int))), none, some (.long (iL ((B : Nat) : Int))), none, b9, none] [] (s) _
    intro A B b9 hA hB eg et
    rw [show (100 - i).toNat = (100 - (i + 1)).toNat + 1 by omega] at et
    refine Gs_lload p194_6 rfl rfl ?_
    refine Gs_lconst (z := 0) p194_8 (by decide) ?_
    refine Gs_lcmp p194_9 ⟨by omega, by omega⟩ ⟨by omega, by omega⟩ ?_
    rw [show (if (0 : Int) < ((B : Nat) : Int) then (1 : Int) else if ((B : Nat) : Int) = 0 then 0 else -1) = (if ¬ B = 0 then 1 else 0) by
      by_cases q : B = 0
      · rw [if_neg (by omega), if_pos (by omega), if_neg (fun r => r q)]
      · rw [if_pos (by omega), if_pos q]]
    refine Gs_ifb_eq (tgt := 31) p194_10 (by rfl) (fun h10 => ?_) (fun h10 => ?_)
    · have B0 : B = 0 := Decidable.not_not.mp h10
      have eA : A = Nat.gcd a b := by rw [← eg, B0, Nat.gcd_zero_right]
      have Ap : 0 < A := by rw [eA]; exact Nat.gcd_pos_of_pos_right _ b0
      refine Gs_iload p194_31 rfl rfl ?_
      refine Gs_if_ne (tgt := 43) p194_33 (by rfl) (by first | assumption | exact gp) (fun h33 => ?_) (fun h33 => ?_)
      · refine Gs_lload_n p194_43 rfl rfl ?_
        refine Gs_lload p194_44 rfl rfl ?_
        refine Gs_ldiv p194_46 (by omega) (by omega) (by omega) (by omega) ?_
        refine Gs_l2i p194_47 ?_
        refine Gs_iret p194_48 rfl ⟨_, rfl, ?_⟩
        first
          | exact ⟨by unfold raL; rw [if_pos (show part = 0 by omega), ← eA]; rfl, rfl⟩
          | exact ⟨by unfold raL; rw [if_neg (show ¬ part = 0 by omega), ← eA]; rfl, rfl⟩
      · refine Gs_lload_n p194_36 rfl rfl ?_
        refine Gs_lload p194_37 rfl rfl ?_
        refine Gs_ldiv p194_39 (by omega) (by omega) (by omega) (by omega) ?_
        refine Gs_goto (tgt := 47) p194_40 (by rfl) ?_
        refine Gs_l2i p194_47 ?_
        refine Gs_iret p194_48 rfl ⟨_, rfl, ?_⟩
        first
          | exact ⟨by unfold raL; rw [if_pos (show part = 0 by omega), ← eA]; rfl, rfl⟩
          | exact ⟨by unfold raL; rw [if_neg (show ¬ part = 0 by omega), ← eA]; rfl, rfl⟩
    · refine Gs_lload p194_13 rfl rfl ?_
      refine Gs_lload p194_15 rfl rfl ?_
      refine Gs_lrem p194_17 (by omega) (by omega) (by omega) (by omega) ?_
      rw [show ((A : Nat) : Int) % ((B : Nat) : Int) = ((A % B : Nat) : Int) from rfl]
      refine Gs_lst9 p194_18 (by first | rfl | assumption) ?_
      refine Gs_lload p194_20 rfl rfl ?_
      refine Gs_lst5 p194_22 (by first | rfl | assumption) ?_
      refine Gs_lload p194_24 rfl rfl ?_
      refine Gs_lst7 p194_26 (by first | rfl | assumption) ?_
      refine Gs_goto (tgt := 6) p194_28 (by rfl) ?_
      exact ih B (A % B) _ hB (by have := Nat.mod_le A B; omega) ((gcd_step A B).trans eg) (et.resolve_left h10)
  · show ∀ (A B : Nat) (b9 : Option Value), A ≤ 100000000 → B ≤ 100000000 → Nat.gcd A B = Nat.gcd a b → euT (100 - ((100 : Int))).toNat A B → Gs X d 194 6 [some (.long (iL ((a : Nat) : Int))), none, some (.long (iL ((b : Nat) : Int))), none, some (.int (iI part)), some (.long (iL ((A : Nat) : Int))), none, some (.long (iL ((B : Nat) : Int))), none, b9, none] [] (s) _
    intro A B b9 hA hB eg et
    have B0 : B = 0 := et
    refine Gs_lload p194_6 rfl rfl ?_
    refine Gs_lconst (z := 0) p194_8 (by decide) ?_
    refine Gs_lcmp p194_9 ⟨by omega, by omega⟩ ⟨by omega, by omega⟩ ?_
    rw [show (if (0 : Int) < ((B : Nat) : Int) then (1 : Int) else if ((B : Nat) : Int) = 0 then 0 else -1) = (if ¬ B = 0 then 1 else 0) by
      by_cases q : B = 0
      · rw [if_neg (by omega), if_pos (by omega), if_neg (fun r => r q)]
      · rw [if_pos (by omega), if_pos q]]
    refine Gs_ifb_eq (tgt := 31) p194_10 (by rfl) (fun h10 => ?_) (fun h10 => absurd ‹_› (by first | omega | assumption))
    have eA : A = Nat.gcd a b := by rw [← eg, B0, Nat.gcd_zero_right]
    have Ap : 0 < A := by rw [eA]; exact Nat.gcd_pos_of_pos_right _ b0
    refine Gs_iload p194_31 rfl rfl ?_
    refine Gs_if_ne (tgt := 43) p194_33 (by rfl) (by first | assumption | exact gp) (fun h33 => ?_) (fun h33 => ?_)
    · refine Gs_lload_n p194_43 rfl rfl ?_
      refine Gs_lload p194_44 rfl rfl ?_
      refine Gs_ldiv p194_46 (by omega) (by omega) (by omega) (by omega) ?_
      refine Gs_l2i p194_47 ?_
      refine Gs_iret p194_48 rfl ⟨_, rfl, ?_⟩
      first
        | exact ⟨by unfold raL; rw [if_pos (show part = 0 by omega), ← eA]; rfl, rfl⟩
        | exact ⟨by unfold raL; rw [if_neg (show ¬ part = 0 by omega), ← eA]; rfl, rfl⟩
    · refine Gs_lload_n p194_36 rfl rfl ?_
      refine Gs_lload p194_37 rfl rfl ?_
      refine Gs_ldiv p194_39 (by omega) (by omega) (by omega) (by omega) ?_
      refine Gs_goto (tgt := 47) p194_40 (by rfl) ?_
      refine Gs_l2i p194_47 ?_
      refine Gs_iret p194_48 rfl ⟨_, rfl, ?_⟩
      first
        | exact ⟨by unfold raL; rw [if_pos (show part = 0 by omega), ← eA]; rfl, rfl⟩
        | exact ⟨by unfold raL; rw [if_neg (show ¬ part = 0 by omega), ← eA]; rfl, rfl⟩
