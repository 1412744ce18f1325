/-! what the relation does not look at -/
theorem CampOk.cong {s s' : St} {c : Nat} {n : Int} (h : CampOk s c n) (e1 : vF s' (c + 1) 1 = vF s (c + 1) 1) (e2 : vF s' c 2 = vF s c 2) (e3 : ∀ z, vA s' (c + 2) z = vA s (c + 2) z) : CampOk s' c n := by
  obtain ⟨a1, a2, a3, a4, a5, a6⟩ := h
  exact ⟨a1, a2, by rw [e1]; exact a3, by rw [e2]; exact a4, by rw [e2]; exact a5, fun k w b0 b1 b2 b3 => by rw [e3]; exact a6 k w b0 b1 b2 b3⟩
theorem cg_cong {s s' : St} {c : Nat} (e3 : ∀ z, vA s' (c + 2) z = vA s (c + 2) z) (k w : Int) : cg s' c k w = cg s c k w := e3 _
theorem CampRel.cong {s s' : St} {c a : Nat} {o n L K : Int} (h : CampRel s c a o n L K) (e1 : vF s' (c + 1) 1 = vF s (c + 1) 1) (e2 : vF s' c 2 = vF s c 2) (e3 : ∀ z, vA s' (c + 2) z = vA s (c + 2) z) (e4 : ∀ z, vA s' a z = vA s a z) : CampRel s' c a o n L K := by
  obtain ⟨h1, h2, h3, h4, h5, h6⟩ := h
  refine ⟨h1.cong e1 e2 e3, by rw [e2, e4]; exact h2, by rw [e2]; exact h3, fun k b0 b1 => ?_, fun k w b0 b1 b2 b3 => ?_, fun k b0 b1 => ?_⟩
  · simp only [cg_cong e3, e4]; exact h4 k b0 b1
  · simp only [cg_cong e3, e4]; exact h5 k w b0 b1 b2 b3
  · simp only [e4]; exact h6 k b0 b1
theorem TaleOk.cong {s s' : St} {t : Nat} (h : TaleOk s t) (e1 : vF s' t 4 = vF s t 4) (e2 : vF s' (t + 1) 1 = vF s (t + 1) 1) (e3 : vF s' (t + 3) 1 = vF s (t + 3) 1) (e4 : ∀ z, vA s' (t + 2) z = vA s (t + 2) z) (e5 : ∀ z, vA s' (t + 4) z = vA s (t + 4) z) : TaleOk s' t := by
  unfold TaleOk at h ⊢
  simp only [e1, e2, e3, e4, e5]
  exact h
theorem RelTale.cong {s s' : St} (h : RelTale s) (e1 : vF s' 5 4 = vF s 5 4) (e2 : vF s' 6 1 = vF s 6 1) (e3 : vF s' 8 1 = vF s 8 1) (e4 : ∀ z, vA s' 7 z = vA s 7 z) (e5 : ∀ z, vA s' 9 z = vA s 9 z) (e6 : ∀ z, vA s' 96 z = vA s 96 z) : RelTale s' := by
  unfold RelTale at h ⊢
  obtain ⟨h1, h2⟩ := h
  refine ⟨h1.cong e1 e2 e3 e4 e5, ?_⟩
  simp only [e1, e3, e4, e5, e6]
  exact h2
theorem RelText.cong {s s' : St} (h : RelText s) (e1 : vF s' 1 1 = vF s 1 1) (e2 : vF s' 95 11 = vF s 95 11) (e3 : ∀ z, vA s' 2 z = vA s 2 z) (e4 : ∀ z, vA s' 103 z = vA s 103 z) : RelText s' := by
  unfold RelText at h ⊢
  simp only [e1, e2, e3, e4]
  exact h
theorem RelSeen.cong {s s' : St} (h : RelSeen s) (e1 : vF s' 3 1 = vF s 3 1) (e2 : vF s' 95 9 = vF s 95 9) (e3 : ∀ z, vA s' 4 z = vA s 4 z) (e4 : ∀ z, vA s' 102 z = vA s 102 z) : RelSeen s' := by
  unfold RelSeen at h ⊢
  simp only [e1, e2, e3, e4]
  exact h
/-- the same on these cells -/
def SameA (P : Nat → Prop) (s s' : St) : Prop := ∀ a, P a → ∀ z, vA s' a z = vA s a z
def SameF (P : Nat → Nat → Prop) (s s' : St) : Prop := ∀ a k, P a k → vF s' a k = vF s a k
theorem RelPast.cong {s s' : St} {n L K : Int} (h : RelPast s n L K) (eA : SameA (fun a => (20 ≤ a ∧ a < 46) ∨ a = 100) s s') (eF : SameF (fun a k => (20 ≤ a ∧ a < 46) ∨ (a = 95 ∧ k = 5)) s s') : RelPast s' n L K := by
  obtain ⟨h1, h2, h3, h4, h5, h6⟩ := h
  have f1 : vF s' 20 1 = vF s 20 1 := eF 20 1 (by omega)
  have f2 : vF s' 20 2 = vF s 20 2 := eF 20 2 (by omega)
  have f3 : vF s' 95 5 = vF s 95 5 := eF 95 5 (by omega)
  refine ⟨by rw [f1]; exact h1, by rw [f1]; exact h2, by rw [f2]; exact h3, by rw [f2]; exact h4, by rw [f2, f3]; exact h5, fun j hj => ?_⟩
  rw [f2] at hj
  rw [f1]
  have hm : ((vF s 20 1 + (j : Int)) % 8).toNat < 8 := by omega
  exact (h6 j hj).cong (eF _ _ (by omega)) (eF _ _ (by omega)) (eA _ (by omega)) (eA _ (by omega))
theorem RelKept.cong {s s' : St} {n L K : Int} (h : RelKept s n L K) (eA : SameA (fun a => (46 ≤ a ∧ a < 54) ∨ a = 101) s s') (eF : SameF (fun a k => (46 ≤ a ∧ a < 54) ∨ (a = 95 ∧ k = 7)) s s') : RelKept s' n L K := by
  obtain ⟨h1, h2, h3, h4, h5⟩ := h
  have f1 : vF s' 46 1 = vF s 46 1 := eF 46 1 (by omega)
  have f2 : vF s' 46 2 = vF s 46 2 := eF 46 2 (by omega)
  have f3 : vF s' 95 7 = vF s 95 7 := eF 95 7 (by omega)
  refine ⟨by rw [f1]; exact h1, by rw [f2]; exact h2, by rw [f2]; exact h3, by rw [f2, f3]; exact h4, fun j hj => ?_⟩
  rw [f2] at hj
  exact (h5 j hj).cong (eF _ _ (by omega)) (eF _ _ (by omega)) (eA _ (by omega)) (eA _ (by omega))
/-- what no relation looks at -/
def scr (a : Nat) : Prop := (10 ≤ a ∧ a ≤ 13) ∨ (17 ≤ a ∧ a ≤ 19) ∨ (54 ≤ a ∧ a ≤ 94) ∨ a = 97 ∨ a = 99 ∨ 104 ≤ a
def Kept (s s' : St) : Prop := SameA (fun a => ¬ scr a) s s' ∧ SameF (fun a k => ¬ scr a ∧ ¬ (a = 95 ∧ (k = 12 ∨ k = 13))) s s'
theorem Kept.rfl' (s : St) : Kept s s := ⟨fun _ _ _ => rfl, fun _ _ _ => rfl⟩
theorem Kept.trans {s t u : St} (h : Kept s t) (g : Kept t u) : Kept s u := ⟨fun a ha z => (g.1 a ha z).trans (h.1 a ha z), fun a k ha => (g.2 a k ha).trans (h.2 a k ha)⟩
theorem Kept.sA {s t : St} (h : Kept s t) {a : Nat} {z v : Int} (ha : scr a) : Kept s (sA t a z v) := ⟨fun b hb z' => by rw [vA_sA, if_neg (fun (e : b = a ∧ z' = z) => hb (e.1 ▸ ha))]; exact h.1 b hb z', fun b k hb => h.2 b k hb⟩
theorem Kept.sF {s t : St} (h : Kept s t) {a k : Nat} {v : Int} (ha : scr a ∨ (a = 95 ∧ (k = 12 ∨ k = 13))) : Kept s (sF t a k v) := ⟨fun b hb z' => h.1 b hb z', fun b k' hb => by
  have hn : ¬ (b = a ∧ k' = k) := fun e => by
    rcases ha with ha | ha
    · exact hb.1 (e.1 ▸ ha)
    · exact hb.2 (by rw [e.1, e.2]; exact ha)
  rw [vF_sF, if_neg hn]; exact h.2 b k' hb⟩
theorem scr_d {a : Nat} (h : (decide ((10 ≤ a ∧ a ≤ 13) ∨ (17 ≤ a ∧ a ≤ 19) ∨ (54 ≤ a ∧ a ≤ 94) ∨ a = 97 ∨ a = 99 ∨ 104 ≤ a)) = true) : scr a := by unfold scr; exact of_decide_eq_true h
theorem nscr_d {a : Nat} (h : (decide ((10 ≤ a ∧ a ≤ 13) ∨ (17 ≤ a ∧ a ≤ 19) ∨ (54 ≤ a ∧ a ≤ 94) ∨ a = 97 ∨ a = 99 ∨ 104 ≤ a)) = false) : ¬ scr a := by unfold scr; exact of_decide_eq_false h
theorem Kept.a {s t : St} (h : Kept s t) (a : Nat) (ha : (decide ((10 ≤ a ∧ a ≤ 13) ∨ (17 ≤ a ∧ a ≤ 19) ∨ (54 ≤ a ∧ a ≤ 94) ∨ a = 97 ∨ a = 99 ∨ 104 ≤ a)) = false) (z : Int) : vA t a z = vA s a z := h.1 a (nscr_d ha) z
theorem Kept.f {s t : St} (h : Kept s t) (a k : Nat) (ha : (decide ((10 ≤ a ∧ a ≤ 13) ∨ (17 ≤ a ∧ a ≤ 19) ∨ (54 ≤ a ∧ a ≤ 94) ∨ a = 97 ∨ a = 99 ∨ 104 ≤ a)) = false) (hk : (decide (a = 95 ∧ (k = 12 ∨ k = 13))) = false) : vF t a k = vF s a k := h.2 a k ⟨nscr_d ha, of_decide_eq_false hk⟩
theorem Rel.kept {K : Int} {s t : St} (h : Rel K s) (e : Kept s t) : Rel K t := by
  obtain ⟨h0, h1, h2, h3, h4, h5, h6⟩ := h
  have e96 : ∀ z, vA t 96 z = vA s 96 z := e.a 96 rfl
  have e5 : vF t 5 4 = vF s 5 4 := e.f 5 4 rfl rfl
  have tA : ∀ a, ¬ scr a → ∀ z, vA t a z = vA s a z := e.1
  have tF : ∀ a k, (¬ scr a ∧ ¬ (a = 95 ∧ (k = 12 ∨ k = 13))) → vF t a k = vF s a k := e.2
  refine ⟨h0, h1.cong (e.f _ _ rfl rfl) (e.f _ _ rfl rfl) (e.a _ rfl) (e.a _ rfl), h2.cong (e.f _ _ rfl rfl) (e.f _ _ rfl rfl) (e.a _ rfl) (e.a _ rfl), h3.cong e5 (e.f _ _ rfl rfl) (e.f _ _ rfl rfl) (e.a _ rfl) (e.a _ rfl) e96, ?_, ?_, ?_⟩
  · rw [e96, e5]; exact h4.cong (e.f _ _ rfl rfl) (e.f _ _ rfl rfl) (e.a _ rfl) (e.a _ rfl)
  · rw [e96, e5]; exact h5.cong (fun a ha => tA a (by unfold scr; omega)) (fun a k ha => tF a k (by unfold scr; omega))
  · rw [e96, e5]; exact h6.cong (fun a ha => tA a (by unfold scr; omega)) (fun a k ha => tF a k (by unfold scr; omega))
theorem CampRel_more {s : St} {c a : Nat} {o n L K : Int} (h : CampRel s c a o n L K) : CampRel s c a o n L (K + 1) := by
  obtain ⟨h1, h2, h3, h4, h5, h6⟩ := h
  exact ⟨h1, h2, by omega, fun k a b => by obtain ⟨e1, e2, e3, e4, e5, e6⟩ := h4 k a b; exact ⟨e1, e2, e3, e4, by omega, e6⟩, h5, h6⟩
theorem RelPast.more {s : St} {n L K : Int} (h : RelPast s n L K) : RelPast s n L (K + 1) := by
  obtain ⟨a1, a2, a3, a4, a5, a6⟩ := h
  exact ⟨a1, by omega, a3, a4, a5, fun j hj => CampRel_more (a6 j hj)⟩
theorem RelKept.more {s : St} {n L K : Int} (h : RelKept s n L K) : RelKept s n L (K + 1) := by
  obtain ⟨a1, a2, a3, a4, a5⟩ := h
  exact ⟨a1, a2, a3, a4, fun j hj => CampRel_more (a5 j hj)⟩
theorem Rel_more {K : Int} {s : St} (h : Rel K s) : Rel (K + 1) s := by
  obtain ⟨h0, h1, h2, h3, h4, h5, h6⟩ := h
  exact ⟨by omega, h1, h2, h3, CampRel_more h4, h5.more, h6.more⟩
/-- a question: both sides answer the same, nothing changes but what no relation looks at -/
theorem Both.ask {X : vX} {K : Int} {s s1 s2 : St} {c m : Nat} {as : List Value} {z : Int} (hR : Rel K s) (hz : rg z) (h1 : OkI X 100 c (.ref 0 :: as) s (Is1 z s1)) (h2 : OkI X 100 m (.ref 95 :: as) s1 (Is1 z s2)) (k : Kept s s2) : Both X K s c m as :=
  ⟨z, s1, s2, hz, h1, h2, Rel_more (hR.kept k)⟩