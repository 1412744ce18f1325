/-! rains: the class, the whole question -/
set_option maxHeartbeats 1000000 in
set_option maxRecDepth 4000 in
theorem c_divisor {X : vX} {s : St} {a b : Nat} (a1 : a ≤ 100000000) (b1 : b ≤ 100000000) : OkI X 0 29 [.int (iI ((a : Nat) : Int)), .int (iI ((b : Nat) : Int))] s (Is1 ((Nat.gcd a b : Nat) : Int) s) := by
  refine Ok.of (r := vm_m29) (ls := [some (.int (iI ((a : Nat) : Int))), some (.int (iI ((b : Nat) : Int))), none, none, none, none]) rfl (Nat.le_of_ble_eq_true rfl) rfl (fun d hd => ?_)
  have eg : eu 100 a b = Nat.gcd a b := eu_gcd 27 100 a b (by have : (2 : Nat) ^ 27 = 134217728 := by decide
                                                              omega) (by omega)
  refine Gs_iload_n p29_0 rfl rfl ?_
  refine Gs_ist2 p29_1 (by first | rfl | assumption) ?_
  refine Gs_iload_n p29_2 rfl rfl ?_
  refine Gs_ist3 p29_3 (by first | rfl | assumption) ?_
  refine Gs_iconst p29_4 ?_
  refine Gs_ist4 p29_5 (by first | rfl | assumption) ?_
  refine dn (n := (100 : Int)) (P := fun i => ∀ (A B : Nat) (b5 : Option Value), A ≤ 100000000 → B ≤ 100000000 → eu (100 - i).toNat A B = eu 100 a b → Gs X d 29 7 [some (.int (iI ((a : Nat) : Int))), some (.int (iI ((b : Nat) : Int))), some (.int (iI ((A : Nat) : Int))), some (.int (iI ((B : Nat) : Int))), some (.int (iI i)), b5] [] (s) (fun vv yy => ∃ zz : Int, vv = some (.int (iI zz)) ∧ (fun z u => z = ((Nat.gcd a b : Nat) : Int) ∧ u = s) zz yy)) (by omega) (fun i hi hin ih => ?_) ?_ a b none a1 b1 rfl
  · show ∀ (A B : Nat) (b5 : Option Value), A ≤ 100000000 → B ≤ 100000000 → eu (100 - i).toNat A B = eu 100 a b → Gs X d 29 7 [some (.int (iI ((a : Nat) : Int))), some (.int (iI ((b : Nat) : Int))), some (.int (iI ((A : Nat) : Int))), some (.int (iI ((B : Nat) : Int))), some (.int (iI i)), b5] [] (s) _
    intro A B b5 hA hB e
    rw [show (100 - i).toNat = (100 - (i + 1)).toNat + 1 by omega] at e
    refine Gs_iload p29_7 rfl rfl ?_
    refine Gs_bipush p29_9 (by decide) ?_
    refine Gs_icmp_ge (tgt := 34) p29_11 (by rfl) (by first | assumption | exact ⟨by omega, by omega⟩ | (split <;> exact ⟨by omega, by omega⟩)) (by first | assumption | exact ⟨by omega, by omega⟩ | (split <;> exact ⟨by omega, by omega⟩)) (fun hc11 => absurd ‹_› (by first | omega | assumption)) (fun hc11 => ?_)
    refine Gs_iload_n p29_14 rfl rfl ?_
    refine Gs_if_le (tgt := 34) p29_15 (by rfl) (by first | assumption | exact ⟨by omega, by omega⟩ | (split <;> exact ⟨by omega, by omega⟩)) (fun h15 => ?_) (fun h15 => ?_)
    · refine Gs_iload_n p29_34 rfl rfl ?_
      refine Gs_iret p29_35 rfl ⟨_, rfl, ?_⟩
      have B0 : B = 0 := by omega
      rw [B0, eu_zero] at e
      exact ⟨by rw [e, eg], rfl⟩
    · refine Gs_iload_n p29_18 rfl rfl ?_
      refine Gs_iload_n p29_19 rfl rfl ?_
      refine Gs_irem p29_20 (by omega) (by omega) (by omega) (by omega) ?_
      rw [show ((A : Nat) : Int) % ((B : Nat) : Int) = ((A % B : Nat) : Int) from rfl]
      refine Gs_ist5 p29_21 (by first | rfl | assumption) ?_
      refine Gs_iload_n p29_23 rfl rfl ?_
      refine Gs_ist2 p29_24 (by first | rfl | assumption) ?_
      refine Gs_iload p29_25 rfl rfl ?_
      refine Gs_ist3 p29_27 (by first | rfl | assumption) ?_
      refine Gs_iinc4 (b54 := none) p29_28 (by first | rfl | assumption) ?_
      refine Gs_goto (tgt := 7) p29_31 (by rfl) ?_
      refine ih B (A % B) _ hB (by have := Nat.mod_le A B; omega) ?_
      rw [← e]
      show _ = (if B = 0 then A else eu _ B (A % B))
      rw [if_neg (by omega)]
  · show ∀ (A B : Nat) (b5 : Option Value), A ≤ 100000000 → B ≤ 100000000 → eu (100 - ((100 : Int))).toNat A B = eu 100 a b → Gs X d 29 7 [some (.int (iI ((a : Nat) : Int))), some (.int (iI ((b : Nat) : Int))), some (.int (iI ((A : Nat) : Int))), some (.int (iI ((B : Nat) : Int))), some (.int (iI ((100 : Int)))), b5] [] (s) _
    intro A B b5 hA hB e
    refine Gs_iload p29_7 rfl rfl ?_
    refine Gs_bipush p29_9 (by decide) ?_
    refine Gs_icmp_ge (tgt := 34) p29_11 (by rfl) (by first | assumption | exact ⟨by omega, by omega⟩ | (split <;> exact ⟨by omega, by omega⟩)) (by first | assumption | exact ⟨by omega, by omega⟩ | (split <;> exact ⟨by omega, by omega⟩)) (fun hc11 => ?_) (fun hc11 => absurd ‹_› (by first | omega | assumption))
    refine Gs_iload_n p29_34 rfl rfl ?_
    refine Gs_iret p29_35 rfl ⟨_, rfl, ?_⟩
    have e2 : A = eu 100 a b := e
    exact ⟨by rw [e2, eg], rfl⟩

/-- the answer: above and below, divided by what they share -/
def raA (part : Int) (n : Nat) (F : Int) : Int := if part = 0 then F / ((Nat.gcd ((10 : Int) ^ n).toNat F.toNat : Nat) : Int) else (10 : Int) ^ n / ((Nat.gcd ((10 : Int) ^ n).toNat F.toNat : Nat) : Int)
theorem ten8 {n : Nat} (h : n ≤ 8) : 1 ≤ (10 : Int) ^ n ∧ (10 : Int) ^ n ≤ 100000000 := by
  match n, h with
  | 0, _ => decide
  | 1, _ => decide
  | 2, _ => decide
  | 3, _ => decide
  | 4, _ => decide
  | 5, _ => decide
  | 6, _ => decide
  | 7, _ => decide
  | 8, _ => decide
theorem dp_all (st : Bool → Int → Int → Int) (x : Int) (hot : Int) (h0 : ∀ b h, st b 0 h = 0) (hs : ∀ b c h, 1 ≤ c → c ≤ 20 → 0 ≤ st b c h ∧ st b c h ≤ 20) (g0 : 0 ≤ hot) (g1 : hot ≤ 20) (n : Nat) :
    sN (fun e => dpN st x (fun k => if hot = k then 1 else 0) n ((e : Int) + 1)) 20 = FW st x n hot 0 := by
  have e := dp_inv st x (fun k => if hot = k then 1 else 0) h0 hs n 0
  rw [sN_one (fun k => FW st x (n + 0) k 0) hot 1 21 g0 (by omega), Int.one_mul, sN_first] at e
  rw [Nat.add_zero] at e
  rw [← e]
  have z : dpN st x (fun k => if hot = k then 1 else 0) n ((0 : Nat) : Int) * FW st x 0 ((0 : Nat) : Int) (n : Int) = 0 := by
    show _ * (if (0 : Int) < 0 then (1 : Int) else 0) = 0
    rw [if_neg (by omega), Int.mul_zero]
  rw [z, Int.zero_add]
  refine sN_cong (fun i _ => ?_)
  show _ = _ * (if (0 : Int) < ((i + 1 : Nat) : Int) then (1 : Int) else 0)
  rw [if_pos (by omega), Int.mul_one]
  rfl