/-! rains: both sides -/
theorem ChF.kept {s u : St} (h : ChF s u) : Kept s u := ⟨fun a ha z => h.1 a z (fun e => ha (by unfold scr; omega)) (fun e => ha (by unfold scr; omega)), fun a k ha => h.2 a k (fun e => ha.1 (by unfold scr; omega)) (fun e => ha.1 (by unfold scr; omega))⟩
theorem raL_raA {part F : Int} {n : Nat} (f0 : 0 ≤ F) (t0 : 0 ≤ (10 : Int) ^ n) : raL part F.toNat ((10 : Int) ^ n).toNat = raA part n F := by
  obtain ⟨A, hA⟩ : ∃ A : Nat, F = A := ⟨F.toNat, (Int.toNat_of_nonneg f0).symm⟩
  obtain ⟨B, hB⟩ : ∃ B : Nat, (10 : Int) ^ n = B := ⟨((10 : Int) ^ n).toNat, (Int.toNat_of_nonneg t0).symm⟩
  unfold raL raA
  rw [hB, hA, Int.toNat_natCast, Int.toNat_natCast, Nat.gcd_comm B A]
  by_cases p : part = 0
  · rw [if_pos p, if_pos p]; rfl
  · rw [if_neg p, if_neg p]; rfl
theorem raL_rg {part : Int} {a b : Nat} (ha : a ≤ 100000000) (hb : b ≤ 100000000) : rg (raL part a b) := by
  unfold raL
  have e1 : a / Nat.gcd a b ≤ a := Nat.div_le_self _ _
  have e2 : b / Nat.gcd a b ≤ b := Nat.div_le_self _ _
  generalize a / Nat.gcd a b = u at e1 ⊢
  generalize b / Nat.gcd a b = v at e2 ⊢
  split
  · exact ⟨by omega, by omega⟩
  · exact ⟨by omega, by omega⟩
theorem T_rains {X : vX} {K : Int} {s : St} (hR : Rel K s) (hK : K < 512) {x1 x2 x3 x4 : Int} (g1 : rg x1) (g2 : rg x2) (g3 : rg x3) (g4 : rg x4) : Both X K s 116 195 [.int (iI x1), .int (iI x2), .int (iI x3), .int (iI x4)] := by
  obtain ⟨h0, h1, h2, h3, h4, h5, h6⟩ := id hR
  have hMT := hR.MT
  by_cases c : (0 ≤ x1 ∧ x1 < vA s 96 2) ∧ (0 ≤ x2 ∧ x2 ≤ 8) ∧ (0 ≤ x3 ∧ x3 ≤ 10) ∧ (0 ≤ x4 ∧ x4 ≤ 1)
  · obtain ⟨⟨c0, c1⟩, ⟨n0, n1⟩, ⟨q0, q1⟩, p0, p1⟩ := c
    have e1 : (fun e => rnI s 5 (vF s 14 2 + e)) = (fun e => rnM s (vA s 98 32 + e)) := by
      funext e
      rw [h3.rn, show vA s 98 32 = vF s 14 2 from h4.2.1.symm]
    have kc := k_rains (X := X) (s := s) (c := x1) (n := x2) (x := x3) (part := x4) h3.1 h4.1 c0 c1 n0 n1 q0 q1 p0 p1
    rw [e1, h4.v0 c0 c1 (w := 6) (by omega) (by omega), h4.v0 c0 c1 (w := 0) (by omega) (by omega), mi_6, mi_0] at kc
    have tb := ten8 (n := x2.toNat) (by omega)
    have fb := FW_b (stR (vA s 98 (24 + x1)) (fun e => rnM s (vA s 98 32 + e))) q0 q1 x2.toNat (vA s 98 x1) 0
    refine Both.of (D := 5) (D' := 2) (P' := fun y t y' t' => y' = raL x4 (FW (stR (vA s 98 (24 + x1)) (fun e => rnM s (vA s 98 32 + e))) x3 x2.toNat (vA s 98 x1) 0).toNat ((10 : Int) ^ x2.toNat).toNat ∧ t' = t) kc (by decide) (by decide) (fun y t p => ?_) (fun y t y' t' p p' => ⟨?_, ?_, ?_⟩)
    · have k := p.2.kept
      have e96 : ∀ z, vA t 96 z = vA s 96 z := k.a 96 rfl
      have e98 : ∀ z, vA t 98 z = vA s 98 z := k.a 98 rfl
      have M := m_rains (X := X) (s := t) (c := x1) (n := x2) (x := x3) (part := x4) (hMT.cong e96) (by rw [e96]; exact h4.mc.cong e98) c0 (by rw [e96]; exact c1) n0 n1 q0 q1 p0 p1
      have e2 : (fun e => rnM t (vA t 98 32 + e)) = (fun e => rnM s (vA s 98 32 + e)) := by
        funext e
        rw [rnM_cong e96, e98]
      rw [e2, e98, e98] at M
      exact M
    · rw [p'.1, p.1]
      exact raL_raA fb.1 (by omega)
    · rw [p.1, ← raL_raA fb.1 (by omega)]
      exact raL_rg (by omega) (by omega)
    · rw [p'.2]
      exact Rel_more (hR.kept p.2.kept)
  · exact Both.q hR (k_rains_no h4.1 g1 g2 g3 g4 c) (m_rains_no hMT g1 g2 g3 g4 c) (by decide) (by decide) rfl ⟨by omega, by omega⟩ (Kept.rfl' s)
