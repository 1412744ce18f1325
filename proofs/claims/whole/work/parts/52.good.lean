/-! what the operations keep -/
theorem lw2 {x : Int} (h0 : 0 ≤ x) (h1 : x < 4) : loW (2 + x) = 0 ∧ hiW (2 + x) = 99 := by
  unfold loW hiW
  constructor <;> ((repeat' split) <;> omega)
theorem lwA : loW 0 = 0 ∧ hiW 0 = 20 ∧ loW 1 = -4 ∧ hiW 1 = 8 ∧ loW 6 = -4 ∧ hiW 6 = 3 ∧ loW 7 = 0 ∧ hiW 7 = 100000 := by decide
theorem feedV_at {V : Int → Int → Int} {b k w : Int} (h2 : 0 ≤ w) (h3 : w < 4) (k' w' : Int) : feedV V b k w k' w' = if k' = k then (if w' = 0 then fedI (V k 0) w else if w' = 1 then (if 1 ≤ fedI (V k 0) w then (if b = -4 then V k 1 else b) else -4) else if w' = 6 then (if 1 ≤ fedI (V k 0) w then w else -4) else if w' = 7 then (if 1 ≤ fedI (V k 0) w ∧ ¬ b = -4 then V k 7 + 1 else V k 7) else if w' = 2 + w then V k (2 + w) - 1 else V k w') else V k' w' := by
  unfold feedV
  generalize fedI (V k 0) w = H
  by_cases e : k' = k
  · subst e
    rw [if_pos rfl]
    unfold hotV
    by_cases c1 : 1 ≤ H
    · by_cases c2 : b = -4
      · simp only [if_pos c1, if_pos c2, upV_at]
        (repeat' split) <;> first | rfl | omega | (simp_all; done) | (simp_all; omega)
      · simp only [if_pos c1, if_neg c2, upV_at]
        (repeat' split) <;> first | rfl | omega | (simp_all; done) | (simp_all; omega)
    · simp only [if_neg c1, upV_at]
      (repeat' split) <;> first | rfl | omega | (simp_all; done) | (simp_all; omega)
  · rw [if_neg e]
    unfold hotV
    by_cases c1 : 1 ≤ H
    · by_cases c2 : b = -4
      · simp only [if_pos c1, if_pos c2, upV_at]
        rw [if_neg (fun q => e q.1), if_neg (fun q => e q.1), if_neg (fun q => e q.1)]
      · simp only [if_pos c1, if_neg c2, upV_at]
        rw [if_neg (fun q => e q.1), if_neg (fun q => e q.1), if_neg (fun q => e q.1), if_neg (fun q => e q.1), if_neg (fun q => e q.1)]
    · simp only [if_neg c1, upV_at]
      rw [if_neg (fun q => e q.1), if_neg (fun q => e q.1), if_neg (fun q => e q.1), if_neg (fun q => e q.1)]
theorem GoodV.feed {V : Int → Int → Int} {n L K b k w : Int} (g : GoodV V n L K) (h0 : 0 ≤ k) (h1 : k < n) (h2 : 0 ≤ w) (h3 : w < 4) (hl : 1 ≤ V k (2 + w)) (hh : 1 ≤ V k 0) (hb : b = -4 ∨ (0 ≤ b ∧ b < L)) (hL : L ≤ 9) (hK : K < 99999) : GoodV (feedV V b k w) n L (K + 1) := by
  have l := lwA
  intro j j0 j1
  obtain ⟨g1, g2, g3, g4⟩ := g j j0 j1
  have hf := fedI_b (V k 0) w
  refine ⟨fun x x0 x1 => ?_, ?_, ?_, ?_⟩
  · rcases w8 x0 x1 with rfl | rfl | ⟨y, y0, y1, rfl⟩ | rfl | rfl
    · have := g1 0 (by omega) (by omega)
      rw [feedV_at h2 h3]
      (repeat' split) <;> omega
    · have := g1 1 (by omega) (by omega)
      rw [feedV_at h2 h3]
      (repeat' split) <;> first | omega | (subst_vars; omega)
    · have := g1 (2 + y) (by omega) (by omega)
      have q := lw2 y0 y1
      rw [feedV_at h2 h3]
      by_cases e : j = k
      · subst e
        by_cases e2 : y = w
        · subst e2
          (repeat' split) <;> omega
        · (repeat' split) <;> omega
      · rw [if_neg e]; exact this
    · have := g1 6 (by omega) (by omega)
      rw [feedV_at h2 h3]
      (repeat' split) <;> first | omega | (subst_vars; omega)
    · have := g1 7 (by omega) (by omega)
      rw [feedV_at h2 h3]
      (repeat' split) <;> first | omega | (subst_vars; omega)
  · rw [feedV_at h2 h3]
    (repeat' split) <;> first | omega | (subst_vars; omega)
  · rw [feedV_at h2 h3, feedV_at h2 h3, feedV_at h2 h3]
    by_cases e : j = k
    · subst e
      simp only [if_pos]
      intro e0
      rw [if_neg (show ¬ 1 ≤ fedI (V j 0) w by omega), if_neg (show ¬ (6 : Int) = 0 by decide), if_neg (show ¬ (6 : Int) = 1 by decide), if_neg (show ¬ 1 ≤ fedI (V j 0) w by omega)]
      exact ⟨rfl, rfl⟩
    · rw [if_neg e, if_neg e, if_neg e]; exact g3
  · rw [feedV_at h2 h3, feedV_at h2 h3]
    by_cases e : j = k
    · subst e
      simp only [if_pos]
      intro e0
      rw [if_pos e0]
      have := g4 hh
      split <;> omega
    · rw [if_neg e, if_neg e]; exact g4
theorem GoodV.up {V : Int → Int → Int} {n L K K' : Int} (g : GoodV V n L K) (h : K ≤ K') : GoodV V n L K' := fun k b0 b1 => ⟨(g k b0 b1).1, by have := (g k b0 b1).2.1; omega, (g k b0 b1).2.2⟩
theorem GoodV.kin {V : Int → Int → Int} {n L K a b : Int} (g : GoodV V n L K) (a0 : 0 ≤ a) (a1 : a < n) (b0 : 0 ≤ b) (b1 : b < n) (hab : a ≠ b) (hb : 4 ≤ V b 0) : GoodV (kinV V a b) n L K := by
  have l := lwA
  intro j j0 j1
  obtain ⟨g1, g2, g3, g4⟩ := g j j0 j1
  obtain ⟨f1, f2, f3, f4⟩ := g b b0 b1
  have q0 := f1 0 (by omega) (by omega)
  have q1 := f1 1 (by omega) (by omega)
  have p4 := f4 (by omega)
  refine ⟨fun x x0 x1 => ?_, ?_, ?_, ?_⟩
  · have := g1 x x0 x1
    unfold kinV
    simp only [upV_at]
    by_cases e6 : j = a ∧ x = 6
    · rw [if_pos e6, e6.2]; omega
    · rw [if_neg e6]
      by_cases e1 : j = a ∧ x = 1
      · rw [if_pos e1, e1.2]; omega
      · rw [if_neg e1]
        by_cases e0 : j = a ∧ x = 0
        · rw [if_pos e0, e0.2]; omega
        · rw [if_neg e0]
          by_cases eb : j = b ∧ x = 0
          · rw [if_pos eb, eb.2]; omega
          · rw [if_neg eb]; exact this
  · unfold kinV
    simp only [upV_at]
    (repeat' split) <;> omega
  · unfold kinV
    simp only [upV_at]
    by_cases ea : j = a
    · subst ea
      simp
    · by_cases eb : j = b
      · subst eb
        simp [ea]
        intro h; omega
      · simp [ea, eb]
        exact g3
  · unfold kinV
    simp only [upV_at]
    by_cases ea : j = a
    · subst ea
      simp
      exact p4
    · by_cases eb : j = b
      · subst eb
        simp [ea]
        intro h; exact p4
      · simp [ea, eb]
        exact g4
theorem GoodV.mov {V : Int → Int → Int} {n L K a b w : Int} (g : GoodV V n L K) (a0 : 0 ≤ a) (a1 : a < n) (b0 : 0 ≤ b) (b1 : b < n) (hab : a ≠ b) (h2 : 0 ≤ w) (h3 : w < 4) (ha : 1 ≤ V a (2 + w)) (hb : V b (2 + w) < 99) : GoodV (movV V a b w) n L K := by
  have l := lw2 h2 h3
  intro j j0 j1
  obtain ⟨g1, g2, g3, g4⟩ := g j j0 j1
  have qa := (g a a0 a1).1 (2 + w) (by omega) (by omega)
  have qb := (g b b0 b1).1 (2 + w) (by omega) (by omega)
  have E : ∀ x, ¬ x = 2 + w → movV V a b w j x = V j x := fun x hx => by
    unfold movV
    rw [upV_at, upV_at, if_neg (fun q => hx q.2), if_neg (fun q => hx q.2)]
  refine ⟨fun x x0 x1 => ?_, ?_, ?_, ?_⟩
  · by_cases e : x = 2 + w
    · subst e
      have := g1 (2 + w) x0 x1
      unfold movV
      simp only [upV_at]
      (repeat' split) <;> omega
    · rw [E x e]; exact g1 x x0 x1
  · rw [E 7 (by omega)]; exact g2
  · rw [E 0 (by omega), E 1 (by omega), E 6 (by omega)]; exact g3
  · rw [E 0 (by omega), E 1 (by omega)]; exact g4
theorem GoodV.mer {V : Int → Int → Int} {n L K a b : Int} (g : GoodV V n L K) (a0 : 0 ≤ a) (a1 : a < n) (b0 : 0 ≤ b) (b1 : b < n) (hab : a ≠ b) (ha : 1 ≤ V a 0) (hb : 1 ≤ V b 0) : GoodV (merV V a b) n L K := by
  have l := lwA
  obtain ⟨ga1, ga2, ga3, ga4⟩ := g a a0 a1
  obtain ⟨gb1, gb2, gb3, gb4⟩ := g b b0 b1
  have p := ga4 ha
  have q := gb4 hb
  have ca := ga1 0 (by omega) (by omega)
  have cb := gb1 0 (by omega) (by omega)
  have la := ga1 1 (by omega) (by omega)
  have lb := gb1 1 (by omega) (by omega)
  have m0 := mn_b (x := 20) (y := V a 0 + V b 0) (l := 1) (h := 20) (by omega) (by omega) (by omega)
  have m1 := mn_b (x := V a 1) (y := V b 1) (l := 0) (h := V a 1) (by omega) (by omega) (by omega)
  have E0 : ∀ j x, ¬ (2 ≤ x ∧ x < 6) → merV V a b j x = outV (mer1 V a b) b j x := fun j x hx => merL_at (by omega)
  have A0 : merV V a b a 0 = mn 20 (V a 0 + V b 0) := by rw [E0 _ _ (by omega)]; unfold outV mer1; simp [upV_at, hab]
  have A1 : merV V a b a 1 = mn (V a 1) (V b 1) := by rw [E0 _ _ (by omega)]; unfold outV mer1; simp [upV_at, hab]
  have A6 : merV V a b a 6 = V a 6 := by rw [E0 _ _ (by omega)]; unfold outV mer1; simp [upV_at, hab]
  have A7 : merV V a b a 7 = V a 7 := by rw [E0 _ _ (by omega)]; unfold outV mer1; simp [upV_at]
  have B0 : merV V a b b 0 = 0 := by rw [E0 _ _ (by omega)]; unfold outV mer1; simp [upV_at]
  have B1 : merV V a b b 1 = -4 := by rw [E0 _ _ (by omega)]; unfold outV mer1; simp [upV_at]
  have B6 : merV V a b b 6 = -4 := by rw [E0 _ _ (by omega)]; unfold outV mer1; simp [upV_at]
  have B7 : merV V a b b 7 = V b 7 := by rw [E0 _ _ (by omega)]; unfold outV mer1; simp [upV_at]
  have O1 : ∀ j x, j ≠ a → j ≠ b → outV (mer1 V a b) b j x = V j x := fun j x ea eb => by unfold outV mer1; simp [upV_at, ea, eb]
  have OL : ∀ j x, 2 ≤ x → x < 6 → outV (mer1 V a b) b j x = V j x := fun j x x0 x1 => by
    unfold outV mer1
    simp only [upV_at]
    rw [if_neg (by omega), if_neg (by omega), if_neg (by omega), if_neg (by omega), if_neg (by omega)]
  have O : ∀ j x, j ≠ a → j ≠ b → merV V a b j x = V j x := fun j x ea eb => by
    unfold merV merL
    rw [if_neg (by omega), O1 j x ea eb]
  intro j j0 j1
  obtain ⟨g1, g2, g3, g4⟩ := g j j0 j1
  have L1 : ∀ y, 0 ≤ y → y < 4 → loW (2 + y) ≤ merV V a b j (2 + y) ∧ merV V a b j (2 + y) ≤ hiW (2 + y) := fun y y0 y1 => by
    have z := lw2 y0 y1
    have za := ga1 (2 + y) (by omega) (by omega)
    have zb := gb1 (2 + y) (by omega) (by omega)
    have zj := g1 (2 + y) (by omega) (by omega)
    have m2 := mn_b (x := 99) (y := V a (2 + y) + V b (2 + y)) (l := 0) (h := 99) (by omega) (by omega) (by omega)
    unfold merV merL
    rw [OL _ _ (by omega) (by omega), OL _ _ (by omega) (by omega), OL _ _ (by omega) (by omega)]
    (repeat' split) <;> omega
  by_cases ea : j = a
  · subst ea
    refine ⟨fun x x0 x1 => ?_, by rw [A7]; exact g2, by rw [A0]; intro h; omega, fun _ => by rw [A1]; omega⟩
    rcases w8 x0 x1 with rfl | rfl | ⟨y, y0, y1, rfl⟩ | rfl | rfl
    · rw [A0]; omega
    · rw [A1]; omega
    · exact L1 y y0 y1
    · rw [A6]; exact g1 6 (by omega) (by omega)
    · rw [A7]; exact g1 7 (by omega) (by omega)
  · by_cases eb : j = b
    · subst eb
      refine ⟨fun x x0 x1 => ?_, by rw [B7]; exact g2, fun _ => ⟨B1, B6⟩, by rw [B0]; intro h; omega⟩
      rcases w8 x0 x1 with rfl | rfl | ⟨y, y0, y1, rfl⟩ | rfl | rfl
      · rw [B0]; omega
      · rw [B1]; omega
      · exact L1 y y0 y1
      · rw [B6]; omega
      · rw [B7]; exact g1 7 (by omega) (by omega)
    · refine ⟨fun x x0 x1 => by rw [O j x ea eb]; exact g1 x x0 x1, by rw [O _ _ ea eb]; exact g2, by rw [O _ _ ea eb, O _ _ ea eb, O _ _ ea eb]; exact g3, by rw [O _ _ ea eb, O _ _ ea eb]; exact g4⟩
theorem GoodV.burn {V : Int → Int → Int} {n L K r i : Int} (g : GoodV V n L K) (hr : 0 ≤ r) : GoodV (burnV V r i) n L K := by
  have l := lwA
  intro j j0 j1
  obtain ⟨g1, g2, g3, g4⟩ := g j j0 j1
  have c0 := g1 0 (by omega) (by omega)
  have bb := burntI_b (h := V j 0) (last := V j 6) (rain := r) (by omega) hr
  refine ⟨fun x x0 x1 => ?_, ?_, ?_, ?_⟩
  · have := g1 x x0 x1
    unfold burnV
    by_cases e0 : x = 0
    · subst e0; (repeat' split) <;> omega
    · by_cases e1 : x = 1
      · subst e1; (repeat' split) <;> omega
      · by_cases e6 : x = 6
        · subst e6; (repeat' split) <;> omega
        · (repeat' split) <;> first | exact this | (exfalso; omega)
  · unfold burnV
    (repeat' split) <;> omega
  · unfold burnV
    (repeat' split) <;> omega
  · unfold burnV
    (repeat' split) <;> omega