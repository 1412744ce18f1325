/-! a log put on, on both sides -/
theorem OkI.and {X : vX} {D mid : Nat} {as : List Value} {s : St} {P : Int → St → Prop} (h : OkI X D mid as s P) {c : Prop} (hc : c) : OkI X D mid as s (fun z t => c ∧ P z t) := h.imp (fun _ _ p => ⟨hc, p⟩)
def hotV (V : Int → Int → Int) (k h : Int) : Int → Int → Int := if 1 ≤ h then upV V k 0 h else upV (upV (upV V k 0 h) k 1 (-4)) k 6 (-4)
def feedV (V : Int → Int → Int) (b k w : Int) : Int → Int → Int := if 1 ≤ fedI (V k 0) w then (if b = -4 then upV (hotV (upV V k (2 + w) (V k (2 + w) - 1)) k (fedI (V k 0) w)) k 6 w else upV (upV (upV (hotV (upV V k (2 + w) (V k (2 + w) - 1)) k (fedI (V k 0) w)) k 6 w) k 1 b) k 7 (V k 7 + 1)) else hotV (upV V k (2 + w) (V k (2 + w) - 1)) k (fedI (V k 0) w)
theorem cv_hot {s : St} {c : Nat} {n k h : Int} (b0 : 0 ≤ k) (b1 : k < n) : cv (hotS s c k h) c n = hotV (cv s c n) k h := by
  unfold hotS hotV
  split
  · exact cv_cs b0 b1 (by omega) (by omega)
  · rw [cv_cs b0 b1 (by omega) (by omega), cv_cs b0 b1 (by omega) (by omega), cv_cs b0 b1 (by omega) (by omega)]
theorem hotV_0 (V : Int → Int → Int) (k h : Int) : hotV V k h k 0 = h := by unfold hotV; split <;> simp [upV_at]
theorem hotV_1 (V : Int → Int → Int) (k h : Int) : hotV V k h k 1 = if 1 ≤ h then V k 1 else -4 := by unfold hotV; split <;> simp [upV_at]
theorem hotV_6 (V : Int → Int → Int) (k h : Int) : hotV V k h k 6 = if 1 ≤ h then V k 6 else -4 := by unfold hotV; split <;> simp [upV_at]
theorem hotV_o (V : Int → Int → Int) (k h k' w' : Int) (hn : ¬ (k' = k ∧ (w' = 0 ∨ w' = 1 ∨ w' = 6))) : hotV V k h k' w' = V k' w' := by
  unfold hotV
  split
  · rw [upV_at, if_neg (by omega)]
  · rw [upV_at, if_neg (by omega), upV_at, if_neg (by omega), upV_at, if_neg (by omega)]
theorem hot_A {s : St} {c i : Nat} {k h z : Int} (hi : i ≠ c + 2) : vA (hotS s c k h) i z = vA s i z := by
  unfold hotS cs
  split
  · rw [vA_sA, if_neg (fun e => hi e.1)]
  · rw [vA_sA, if_neg (fun e => hi e.1), vA_sA, if_neg (fun e => hi e.1), vA_sA, if_neg (fun e => hi e.1)]
theorem hot_F {s : St} {c : Nat} {k h : Int} (i j : Nat) : vF (hotS s c k h) i j = vF s i j := by unfold hotS cs; split <;> rfl
theorem bhI_cong {s t : St} {u : Nat} (e4 : vF t u 4 = vF s u 4) (e : ∀ z, vA t (u + 2) z = vA s (u + 2) z) (l w : Int) : bhI t u l w = bhI s u l w := by unfold bhI; simp only [e, e4]
theorem rnI_cong {s t : St} {u : Nat} (e1 : vF t (u + 3) 1 = vF s (u + 3) 1) (e : ∀ z, vA t (u + 4) z = vA s (u + 4) z) (x : Int) : rnI t u x = rnI s u x := by unfold rnI; simp only [e, e1]
theorem feed_A {s : St} {c t i : Nat} {k w z : Int} (hi : i ≠ c + 2) : vA (feedS s c t k w) i z = vA s i z := by
  have e1 : vA (feed1 s c k w) i z = vA s i z := by
    unfold feed1
    rw [hot_A hi]; unfold cs; rw [vA_sA, if_neg (fun e => hi e.1)]
  have e2 : vA (feed2 s c k w) i z = vA s i z := by
    unfold feed2 cs
    rw [vA_sA, if_neg (fun e => hi e.1), e1]
  unfold feedS
  split
  · split
    · exact e2
    · unfold feed3 cs
      rw [vA_sA, if_neg (fun e => hi e.1), vA_sA, if_neg (fun e => hi e.1), e2]
  · exact e1
theorem feed_F {s : St} {c t : Nat} {k w : Int} (i j : Nat) : vF (feedS s c t k w) i j = vF s i j := by
  have e1 : vF (feed1 s c k w) i j = vF s i j := by
    unfold feed1
    rw [hot_F]; rfl
  unfold feedS
  split
  · split
    · exact e1
    · exact e1
  · exact e1
theorem cv_feed1 {s : St} {c : Nat} {n k w : Int} (b0 : 0 ≤ k) (b1 : k < n) (b2 : 0 ≤ w) (b3 : w < 4) : cv (feed1 s c k w) c n = hotV (upV (cv s c n) k (2 + w) (cv s c n k (2 + w) - 1)) k (fedI (cv s c n k 0) w) := by
  unfold feed1
  rw [cv_hot b0 b1, cv_cs b0 b1 (by omega) (by omega), cg_cs (by omega) (by omega) (by omega) (by omega), if_neg (by omega), cv_at b0 b1 (by omega) (by omega), cv_at b0 b1 (by omega) (by omega)]
  rfl
theorem cv_feed {s : St} {c t : Nat} {n k w : Int} (b0 : 0 ≤ k) (b1 : k < n) (b2 : 0 ≤ w) (b3 : w < 4) (hct : c + 2 ≠ t + 2) : cv (feedS s c t k w) c n = feedV (cv s c n) (bhI s t (cv s c n k 1) w) k w := by
  have e1 := cv_feed1 (s := s) (c := c) b0 b1 b2 b3
  have c0 : cg (feed1 s c k w) c k 0 = fedI (cv s c n k 0) w := by rw [← cv_at (n := n) b0 b1 (by omega) (by omega), e1, hotV_0]
  have c1 : 1 ≤ fedI (cv s c n k 0) w → cg (feed1 s c k w) c k 1 = cv s c n k 1 := fun h => by rw [← cv_at (n := n) b0 b1 (by omega) (by omega), e1, hotV_1, if_pos h, upV_at, if_neg (by omega)]
  have c7 : cg (feed1 s c k w) c k 7 = cv s c n k 7 := by rw [← cv_at (n := n) b0 b1 (by omega) (by omega), e1, hotV_o _ _ _ _ _ (by omega), upV_at, if_neg (by omega)]
  have e2 : cv (feed2 s c k w) c n = upV (cv (feed1 s c k w) c n) k 6 w := by unfold feed2; exact cv_cs b0 b1 (by omega) (by omega)
  have d1 : cg (feed2 s c k w) c k 1 = cg (feed1 s c k w) c k 1 := by unfold feed2; rw [cg_cs (by omega) (by omega) (by omega) (by omega), if_neg (by omega)]
  have d7 : cg (feed3 s c t k w) c k 7 = cv s c n k 7 := by unfold feed3 feed2; rw [cg_cs (by omega) (by omega) (by omega) (by omega), if_neg (by omega), cg_cs (by omega) (by omega) (by omega) (by omega), if_neg (by omega), c7]
  have hb : ∀ l, bhI (feed2 s c k w) t l w = bhI s t l w := fun l => bhI_cong (by unfold feed2 feed1 cs; show vF (hotS _ _ _ _) _ _ = _; rw [hot_F]; rfl) (fun z => by
    unfold feed2 feed1 cs
    rw [vA_sA, if_neg (fun e => hct e.1.symm), hot_A (fun e => hct e.symm), vA_sA, if_neg (fun e => hct e.1.symm)]) l w
  unfold feedS feedV
  rw [c0]
  by_cases h : 1 ≤ fedI (cv s c n k 0) w
  · have hF : feedF s c t k w = bhI s t (cv s c n k 1) w := by unfold feedF; rw [hb, d1, c1 h]
    rw [if_pos h, if_pos h, hF]
    split
    · rw [e2, e1]
    · rw [cv_cs b0 b1 (by omega) (by omega), d7]
      unfold feed3
      rw [cv_cs b0 b1 (by omega) (by omega), hF, e2, e1]
  · rw [if_neg h, if_neg h, e1]
/-- the reference's table is V then, all else as it was -/
def MOp (s t : St) (a : Nat) (n : Int) (V : Int → Int → Int) : Prop := mv t a 0 n = V ∧ (∀ i z, i ≠ a → vA t i z = vA s i z) ∧ (∀ i k, vF t i k = vF s i k) ∧ (∀ z, 32 ≤ z → vA t a z = vA s a z) ∧ Unu s t a n
theorem MOp.refl (s : St) (a : Nat) (n : Int) : MOp s s a n (mv s a 0 n) := ⟨rfl, fun _ _ _ => rfl, fun _ _ => rfl, fun _ _ => rfl, fun _ _ _ _ _ _ => rfl⟩
theorem MOp.eq {s t : St} {a : Nat} {n : Int} {V W : Int → Int → Int} (h : MOp s t a n V) (e : V = W) : MOp s t a n W := e ▸ h
theorem MOp.w {s t : St} {a : Nat} {n : Int} {V : Int → Int → Int} {k w v i : Int} (h : MOp s t a n V) (b0 : 0 ≤ k) (b1 : k < n) (hn : n ≤ 4) (b2 : 0 ≤ w) (b3 : w < 8) (hi : i = mi k w) : MOp s (sA t a i v) a n (upV V k w v) := by
  obtain ⟨h1, h2, h3, h4, h5⟩ := h
  have hb := mi_b b0 (show k < 4 by omega) b2 b3
  refine ⟨by rw [mv_ms b0 b1 b2 b3 hn hi, h1], fun i' z e => by rw [vA_sA, if_neg (fun q => e q.1)]; exact h2 i' z e, fun i' k' => by rw [vF_sA]; exact h3 i' k', fun z hz => by rw [vA_sA, if_neg (by omega)]; exact h4 z hz, fun k' w' g0 g1 g2 g3 => ?_⟩
  rw [vA_sA, if_neg (fun q => ?_)]
  · exact h5 k' w' g0 g1 g2 g3
  · have := mi_inj (show 0 ≤ k' by omega) g1 g2 g3 b0 (by omega) b2 b3 (q.2.trans hi)
    omega
theorem MOp.trans {s t u : St} {a : Nat} {n : Int} {V W : Int → Int → Int} (h : MOp s t a n V) (g : MOp t u a n W) : MOp s u a n W :=
  ⟨g.1, fun i z e => (g.2.1 i z e).trans (h.2.1 i z e), fun i k => (g.2.2.1 i k).trans (h.2.2.1 i k), fun z hz => (g.2.2.2.1 z hz).trans (h.2.2.2.1 z hz), fun k w a b c d => (g.2.2.2.2 k w a b c d).trans (h.2.2.2.2 k w a b c d)⟩
theorem bhM_cong {s t : St} (e : ∀ z, vA t 96 z = vA s 96 z) (l w : Int) : bhM t l w = bhM s l w := by unfold bhM; simp only [e]
theorem rnM_cong {s t : St} (e : ∀ z, vA t 96 z = vA s 96 z) (x : Int) : rnM t x = rnM s x := by unfold rnM; simp only [e]
theorem mv0 {s : St} {a : Nat} {n k : Int} (b0 : 0 ≤ k) (b1 : k < n) : mv s a 0 n k 0 = vA s a k := by rw [mv_at b0 b1 (by omega) (by omega), mi_0, Int.zero_add]
theorem mv1 {s : St} {a : Nat} {n k : Int} (b0 : 0 ≤ k) (b1 : k < n) : mv s a 0 n k 1 = vA s a (4 + k) := by rw [mv_at b0 b1 (by omega) (by omega), mi_1, Int.zero_add]
theorem mv6 {s : St} {a : Nat} {n k : Int} (b0 : 0 ≤ k) (b1 : k < n) : mv s a 0 n k 6 = vA s a (24 + k) := by rw [mv_at b0 b1 (by omega) (by omega), mi_6, Int.zero_add]
theorem mv7 {s : St} {a : Nat} {n k : Int} (b0 : 0 ≤ k) (b1 : k < n) : mv s a 0 n k 7 = vA s a (28 + k) := by rw [mv_at b0 b1 (by omega) (by omega), mi_7, Int.zero_add]
theorem mv2 {s : St} {a : Nat} {n k w : Int} (b0 : 0 ≤ k) (b1 : k < n) (b2 : 0 ≤ w) (b3 : w < 4) : mv s a 0 n k (2 + w) = vA s a (8 + 4 * k + w) := by rw [mv_at b0 b1 (by omega) (by omega), mi_2 b2 b3, Int.zero_add]
def outS (s : St) (a : Nat) (k : Int) : St := sA (sA (sA s a (0 + k) 0) a (4 + k) (-4)) a (24 + k) (-4)
def outV (V : Int → Int → Int) (k : Int) : Int → Int → Int := upV (upV (upV V k 0 0) k 1 (-4)) k 6 (-4)
theorem MOp.out {s t : St} {a : Nat} {n : Int} {V : Int → Int → Int} {k : Int} (h : MOp s t a n V) (b0 : 0 ≤ k) (b1 : k < n) (hn : n ≤ 4) : MOp s (outS t a k) a n (outV V k) :=
  ((h.w b0 b1 hn (w := 0) (by omega) (by omega) (by rw [mi_0]; omega)).w b0 b1 hn (w := 1) (by omega) (by omega) (by rw [mi_1])).w b0 b1 hn (w := 6) (by omega) (by omega) (by rw [mi_6])
theorem upV_same (V : Int → Int → Int) (k w a b : Int) : upV (upV V k w a) k w b = upV V k w b := by
  funext k' w'
  simp only [upV_at]
  split <;> rfl
theorem upV_comm (V : Int → Int → Int) (k w a k2 w2 b : Int) (h : ¬ (k = k2 ∧ w = w2)) : upV (upV V k w a) k2 w2 b = upV (upV V k2 w2 b) k w a := by
  funext k' w'
  simp only [upV_at]
  by_cases e : k' = k ∧ w' = w
  · rw [if_neg (by omega), if_pos e, if_pos e]
  · rw [if_neg e, if_neg e]
theorem upV_self (V : Int → Int → Int) (k w : Int) : upV V k w (V k w) = V := by
  funext k' w'
  simp only [upV_at]
  split
  · rename_i e; rw [e.1, e.2]
  · rfl
set_option maxHeartbeats 1000000 in
set_option maxRecDepth 4000 in
theorem c_goesOut {X : vX} {s : St} {a : Nat} (ha : isA a 33) {k : Int} (h0 : 0 ≤ k) (h1 : k < 4) : OkV X 0 160 [.ref a, .int (iI k)] s (Is0 (outS s a k)) := by
  refine Ok.of (r := vm_m160) (ls := [some (.ref a), some (.int (iI k))]) rfl (Nat.le_of_ble_eq_true rfl) rfl (fun d hd => ?_)
  unfold isA at ha
  refine Gs_aload_n p160_0 rfl rfl ?_
  refine Gs_iconst p160_1 ?_
  refine Gs_iload_n p160_2 rfl rfl ?_
  refine Gs_iadd p160_3 ?_
  refine Gs_iconst p160_4 ?_
  refine Gs_iast p160_5 (by first | rfl | assumption | exact (show isTale _ from by assumption).1 | exact (show isCamp _ _ from by assumption).1 | exact (show isRow _ _ from by assumption).1) (by omega) (by omega) (by omega) ?_
  refine Gs_aload_n p160_6 rfl rfl ?_
  refine Gs_iconst p160_7 ?_
  refine Gs_iload_n p160_8 rfl rfl ?_
  refine Gs_iadd p160_9 ?_
  refine Gs_bipush p160_10 (by decide) ?_
  refine Gs_iast p160_12 (by first | rfl | assumption | exact (show isTale _ from by assumption).1 | exact (show isCamp _ _ from by assumption).1 | exact (show isRow _ _ from by assumption).1) (by omega) (by omega) (by omega) ?_
  refine Gs_aload_n p160_13 rfl rfl ?_
  refine Gs_bipush p160_14 (by decide) ?_
  refine Gs_iload_n p160_16 rfl rfl ?_
  refine Gs_iadd p160_17 ?_
  refine Gs_bipush p160_18 (by decide) ?_
  refine Gs_iast p160_20 (by first | rfl | assumption | exact (show isTale _ from by assumption).1 | exact (show isCamp _ _ from by assumption).1 | exact (show isRow _ _ from by assumption).1) (by omega) (by omega) (by omega) ?_
  refine Gs_vret p160_21 rfl ⟨rfl, ?_⟩
  rfl

set_option maxHeartbeats 1000000 in
set_option maxRecDepth 4000 in
theorem c_mayPut {X : vX} {s : St} {a : Nat} (ha : isA a 33) {n k : Int} (hm : MC s a n) (h0 : 0 ≤ k) (h1 : k < n) (hn : n ≤ 4) {w : Int} (h2 : 0 ≤ w) (h3 : w < 4) : OkI X 0 161 [.ref a, .int (iI k), .int (iI w)] s (Is1 (if 0 < vA s a k ∧ 0 < vA s a (8 + 4 * k + w) then 1 else 0) s) := by
  refine Ok.of (r := vm_m161) (ls := [some (.ref a), some (.int (iI k)), some (.int (iI w))]) rfl (Nat.le_of_ble_eq_true rfl) rfl (fun d hd => ?_)
  obtain ⟨m1, m2, m3, m4⟩ := id hm
  have b0 := m3 (0 + k) (by omega) (by omega)
  have b2 := (m4 k h0 h1).2.2.2 w h2 h3
  unfold isA at ha
  refine Gs_aload_n p161_0 rfl rfl ?_
  refine Gs_iconst p161_1 ?_
  refine Gs_iload_n p161_2 rfl rfl ?_
  refine Gs_iadd p161_3 ?_
  refine Gs_iald p161_4 (by first | rfl | assumption | exact (show isTale _ from by assumption).1 | exact (show isCamp _ _ from by assumption).1 | exact (show isRow _ _ from by assumption).1) (by omega) (by omega) (by omega) ?_
  refine Gs_if_le (tgt := 25) p161_5 (by rfl) (by first | assumption | exact ⟨by omega, by omega⟩ | (split <;> exact ⟨by omega, by omega⟩)) (fun h5 => ?_) (fun h5 => ?_)
  · refine Gs_iconst p161_25 ?_
    refine Gs_zret p161_26 rfl (by first | exact Or.inl rfl | exact Or.inr rfl | (split <;> first | exact Or.inl rfl | exact Or.inr rfl)) ⟨_, rfl, ?_⟩
    rw [Int.zero_add] at *
    refine ⟨?_, rfl⟩
    (repeat' split) <;> omega
  · refine Gs_aload_n p161_8 rfl rfl ?_
    refine Gs_bipush p161_9 (by decide) ?_
    refine Gs_iconst p161_11 ?_
    refine Gs_iload_n p161_12 rfl rfl ?_
    refine Gs_imul p161_13 ?_
    refine Gs_iadd p161_14 ?_
    refine Gs_iload_n p161_15 rfl rfl ?_
    refine Gs_iadd p161_16 ?_
    refine Gs_iald p161_17 (by first | rfl | assumption | exact (show isTale _ from by assumption).1 | exact (show isCamp _ _ from by assumption).1 | exact (show isRow _ _ from by assumption).1) (by omega) (by omega) (by omega) ?_
    refine Gs_if_le (tgt := 25) p161_18 (by rfl) (by first | assumption | exact ⟨by omega, by omega⟩ | (split <;> exact ⟨by omega, by omega⟩)) (fun h18 => ?_) (fun h18 => ?_)
    · refine Gs_iconst p161_25 ?_
      refine Gs_zret p161_26 rfl (by first | exact Or.inl rfl | exact Or.inr rfl | (split <;> first | exact Or.inl rfl | exact Or.inr rfl)) ⟨_, rfl, ?_⟩
      rw [Int.zero_add] at *
      refine ⟨?_, rfl⟩
      (repeat' split) <;> omega
    · refine Gs_iconst p161_21 ?_
      refine Gs_goto (tgt := 26) p161_22 (by rfl) ?_
      refine Gs_zret p161_26 rfl (by first | exact Or.inl rfl | exact Or.inr rfl | (split <;> first | exact Or.inl rfl | exact Or.inr rfl)) ⟨_, rfl, ?_⟩
      rw [Int.zero_add] at *
      refine ⟨?_, rfl⟩
      (repeat' split) <;> omega

set_option maxHeartbeats 1000000 in
set_option maxRecDepth 4000 in
theorem c_puts {X : vX} {s : St} {a : Nat} (ha : isA a 33) {n k : Int} (hm : MC s a n) (h0 : 0 ≤ k) (h1 : k < n) (hn : n ≤ 4) {w : Int} (h2 : 0 ≤ w) (h3 : w < 4) (h96 : a ≠ 96) (hT : MT s) (hl : 1 ≤ fedI (vA s a (0 + k)) w → 0 ≤ vA s a (4 + k) ∧ vA s a (4 + k) < vA s 96 0) : OkV X 2 162 [.ref 95, .ref a, .int (iI k), .int (iI w)] s (fun t => MOp s t a n (feedV (mv s a 0 n) (bhM s (vA s a (4 + k)) w) k w)) := by
  refine Ok.of (r := vm_m162) (ls := [some (.ref 95), some (.ref a), some (.int (iI k)), some (.int (iI w)), none]) rfl (Nat.le_of_ble_eq_true rfl) rfl (fun d hd => ?_)
  obtain ⟨m1, m2, m3, m4⟩ := id hm
  have b0 := m3 (0 + k) (by omega) (by omega)
  have b1 := m4 k h0 h1
  have hf := fedI_b (vA s a (0 + k)) w
  unfold isA at ha
  have r1 : vA (sA s a (8 + 4 * k + w) (vA s a (8 + 4 * k + w) - 1)) a (0 + k) = vA s a (0 + k) := by rw [vA_sA, if_neg (by omega)]
  have r2 : vA (sA (sA (sA s a (8 + 4 * k + w) (vA s a (8 + 4 * k + w) - 1)) a (0 + k) (fedI (vA s a (0 + k)) w)) a (24 + k) w) a (0 + k) = fedI (vA s a (0 + k)) w := by rw [vA_sA, if_neg (by omega), vA_sA, if_pos ⟨rfl, rfl⟩]
  have r3 : vA (sA (sA (sA s a (8 + 4 * k + w) (vA s a (8 + 4 * k + w) - 1)) a (0 + k) (fedI (vA s a (0 + k)) w)) a (24 + k) w) a (4 + k) = vA s a (4 + k) := by rw [vA_sA, if_neg (by omega), vA_sA, if_neg (by omega), vA_sA, if_neg (by omega)]
  have e96 : ∀ z, vA (sA (sA (sA s a (8 + 4 * k + w) (vA s a (8 + 4 * k + w) - 1)) a (0 + k) (fedI (vA s a (0 + k)) w)) a (24 + k) w) 96 z = vA s 96 z := fun z => by rw [vA_sA, if_neg (fun e => h96 e.1.symm), vA_sA, if_neg (fun e => h96 e.1.symm), vA_sA, if_neg (fun e => h96 e.1.symm)]
  have hb := hl
  have M3 : MOp s (sA (sA (sA s a (8 + 4 * k + w) (vA s a (8 + 4 * k + w) - 1)) a (0 + k) (fedI (vA s a (0 + k)) w)) a (24 + k) w) a n (upV (upV (upV (mv s a 0 n) k (2 + w) (mv s a 0 n k (2 + w) - 1)) k 0 (fedI (mv s a 0 n k 0) w)) k 6 w) := by
    rw [mv2 h0 h1 h2 h3, mv0 h0 h1]
    have := (((MOp.refl s a n).w h0 h1 hn (w := 2 + w) (v := vA s a (8 + 4 * k + w) - 1) (by omega) (by omega) (mi_2 h2 h3).symm).w h0 h1 hn (w := 0) (v := fedI (vA s a (0 + k)) w) (i := 0 + k) (by omega) (by omega) (by rw [mi_0, Int.zero_add])).w h0 h1 hn (w := 6) (v := w) (i := 24 + k) (by omega) (by omega) (by rw [mi_6])
    rw [show fedI (vA s a k) w = fedI (vA s a (0 + k)) w by rw [Int.zero_add]]
    exact this
  generalize hB : bhM s (vA s a (4 + k)) w = B
  refine Gs_aload_n p162_0 rfl rfl ?_
  refine Gs_bipush p162_1 (by decide) ?_
  refine Gs_iconst p162_3 ?_
  refine Gs_iload_n p162_4 rfl rfl ?_
  refine Gs_imul p162_5 ?_
  refine Gs_iadd p162_6 ?_
  refine Gs_iload_n p162_7 rfl rfl ?_
  refine Gs_iadd p162_8 ?_
  refine Gs_dup2 p162_9 rfl rfl ?_
  refine Gs_iald p162_10 (by first | rfl | assumption | exact (show isTale _ from by assumption).1 | exact (show isCamp _ _ from by assumption).1 | exact (show isRow _ _ from by assumption).1) (by omega) (by omega) (by omega) ?_
  refine Gs_iconst p162_11 ?_
  refine Gs_isub p162_12 ?_
  refine Gs_iast p162_13 (by first | rfl | assumption | exact (show isTale _ from by assumption).1 | exact (show isCamp _ _ from by assumption).1 | exact (show isRow _ _ from by assumption).1) (by omega) (by omega) (by omega) ?_
  refine Gs_aload_n p162_14 rfl rfl ?_
  refine Gs_iconst p162_15 ?_
  refine Gs_iload_n p162_16 rfl rfl ?_
  refine Gs_iadd p162_17 ?_
  refine Gs_aload_n p162_18 rfl rfl ?_
  refine Gs_iconst p162_19 ?_
  refine Gs_iload_n p162_20 rfl rfl ?_
  refine Gs_iadd p162_21 ?_
  refine Gs_iald p162_22 (by first | rfl | assumption | exact (show isTale _ from by assumption).1 | exact (show isCamp _ _ from by assumption).1 | exact (show isRow _ _ from by assumption).1) (by omega) (by omega) (by omega) ?_
  refine Gs_iload_n p162_23 rfl rfl ?_
  rw [r1]
  refine Gs_callS2I p162_24 (by rfl) (Nat.le_of_ble_eq_true rfl) (by decide) (c_hotter (by omega) (by omega) h2 h3) (by omega) ?_
  refine Gs_iast p162_27 (by first | rfl | assumption | exact (show isTale _ from by assumption).1 | exact (show isCamp _ _ from by assumption).1 | exact (show isRow _ _ from by assumption).1) (by omega) (by omega) (by omega) ?_
  refine Gs_aload_n p162_28 rfl rfl ?_
  refine Gs_bipush p162_29 (by decide) ?_
  refine Gs_iload_n p162_31 rfl rfl ?_
  refine Gs_iadd p162_32 ?_
  refine Gs_iload_n p162_33 rfl rfl ?_
  refine Gs_iast p162_34 (by first | rfl | assumption | exact (show isTale _ from by assumption).1 | exact (show isCamp _ _ from by assumption).1 | exact (show isRow _ _ from by assumption).1) (by omega) (by omega) (by omega) ?_
  refine Gs_aload_n p162_35 rfl rfl ?_
  refine Gs_iconst p162_36 ?_
  refine Gs_iload_n p162_37 rfl rfl ?_
  refine Gs_iadd p162_38 ?_
  refine Gs_iald p162_39 (by first | rfl | assumption | exact (show isTale _ from by assumption).1 | exact (show isCamp _ _ from by assumption).1 | exact (show isRow _ _ from by assumption).1) (by omega) (by omega) (by omega) ?_
  rw [r2]
  refine Gs_if_ne (tgt := 49) p162_40 (by rfl) (by first | assumption | exact ⟨by omega, by omega⟩ | (split <;> exact ⟨by omega, by omega⟩)) (fun h40 => ?_) (fun h40 => ?_)
  · refine Gs_aload_n p162_49 rfl rfl ?_
    refine Gs_aload_n p162_50 rfl rfl ?_
    refine Gs_iconst p162_51 ?_
    refine Gs_iload_n p162_52 rfl rfl ?_
    refine Gs_iadd p162_53 ?_
    refine Gs_iald p162_54 (by first | rfl | assumption | exact (show isTale _ from by assumption).1 | exact (show isCamp _ _ from by assumption).1 | exact (show isRow _ _ from by assumption).1) (by omega) (by omega) (by omega) ?_
    rw [r3]
    refine Gs_iload_n p162_55 rfl rfl ?_
    refine Gs_callV2I p162_56 (by rfl) (by rfl) (by first | rfl | assumption | exact (show isTale _ from by assumption).1 | exact (show isCamp _ _ from by assumption).1 | exact (show isRow _ _ from by assumption).1) (Nat.le_of_ble_eq_true rfl) (by decide) (c_mbehind (hT.cong e96) (by omega) (by rw [e96]; omega) h2 h3) (by omega) ?_
    rw [bhM_cong e96, hB]
    have bB := bhM_b hT (hl (by omega)).1 (hl (by omega)).2 h2 h3
    rw [hB] at bB
    refine Gs_ist4 p162_59 (by first | rfl | assumption) ?_
    refine Gs_aload_n p162_61 rfl rfl ?_
    refine Gs_iconst p162_62 ?_
    refine Gs_iload_n p162_63 rfl rfl ?_
    refine Gs_iadd p162_64 ?_
    refine Gs_iload p162_65 rfl rfl ?_
    refine Gs_bipush p162_67 (by decide) ?_
    refine Gs_icmp_ne (tgt := 80) p162_69 (by rfl) (by first | assumption | exact ⟨by omega, by omega⟩ | (split <;> exact ⟨by omega, by omega⟩)) (by first | assumption | exact ⟨by omega, by omega⟩ | (split <;> exact ⟨by omega, by omega⟩)) (fun h69 => ?_) (fun h69 => ?_)
    · refine Gs_iload p162_80 rfl rfl ?_
      refine Gs_iast p162_82 (by first | rfl | assumption | exact (show isTale _ from by assumption).1 | exact (show isCamp _ _ from by assumption).1 | exact (show isRow _ _ from by assumption).1) (by omega) (by omega) (by omega) ?_
      have r7 : ∀ v, vA (sA (sA (sA (sA s a (8 + 4 * k + w) (vA s a (8 + 4 * k + w) - 1)) a (0 + k) (fedI (vA s a (0 + k)) w)) a (24 + k) w) a (4 + k) v) a (28 + k) = vA s a (28 + k) := fun v => by rw [vA_sA, if_neg (by omega), vA_sA, if_neg (by omega), vA_sA, if_neg (by omega), vA_sA, if_neg (by omega)]
      refine Gs_aload_n p162_83 rfl rfl ?_
      refine Gs_bipush p162_84 (by decide) ?_
      refine Gs_iload_n p162_86 rfl rfl ?_
      refine Gs_iadd p162_87 ?_
      refine Gs_dup2 p162_88 rfl rfl ?_
      refine Gs_iald p162_89 (by first | rfl | assumption | exact (show isTale _ from by assumption).1 | exact (show isCamp _ _ from by assumption).1 | exact (show isRow _ _ from by assumption).1) (by omega) (by omega) (by omega) ?_
      refine Gs_iload p162_90 rfl rfl ?_
      refine Gs_bipush p162_92 (by decide) ?_
      refine Gs_icmp_ne (tgt := 101) p162_94 (by rfl) (by first | assumption | exact ⟨by omega, by omega⟩ | (split <;> exact ⟨by omega, by omega⟩)) (by first | assumption | exact ⟨by omega, by omega⟩ | (split <;> exact ⟨by omega, by omega⟩)) (fun h94 => ?_) (fun h94 => ?_)
      · refine Gs_iconst p162_101 ?_
        refine Gs_iadd p162_102 ?_
        refine Gs_iast p162_103 (by first | rfl | assumption | exact (show isTale _ from by assumption).1 | exact (show isCamp _ _ from by assumption).1 | exact (show isRow _ _ from by assumption).1) (by omega) (by omega) (by omega) ?_
        refine Gs_vret p162_104 rfl ⟨rfl, ?_⟩
        first
          | (exfalso; omega)
          | (have e0 : mv s a 0 n k 0 = vA s a (0 + k) := by rw [mv0 h0 h1, Int.zero_add]
             have hh : 1 ≤ fedI (mv s a 0 n k 0) w := by rw [e0]; omega
             refine MOp.eq ((M3.w h0 h1 hn (w := 1) (by omega) (by omega) (by rw [mi_1])).w h0 h1 hn (w := 7) (by omega) (by omega) (by rw [mi_7])) ?_
             unfold feedV hotV
             rw [if_pos hh, if_pos hh, mv7 h0 h1, r7]
             first
             | (rw [if_neg (by omega)]; done)
             | (rw [if_pos (by omega), Int.add_zero, ← mv7 (n := n) h0 h1, ← mv1 (n := n) h0 h1]
                funext k' w'
                simp only [upV_at]
                by_cases e7 : k' = k ∧ w' = 7
                · rw [if_pos e7, if_neg (by omega), if_neg (by omega), if_neg (by omega), e7.1, e7.2]
                · rw [if_neg e7]
                  by_cases e1 : k' = k ∧ w' = 1
                  · rw [if_pos e1, if_neg (by omega), if_neg (by omega), if_neg (by omega), e1.1, e1.2]
                  · rw [if_neg e1]))
      · refine Gs_iconst p162_97 ?_
        refine Gs_goto (tgt := 102) p162_98 (by rfl) ?_
        refine Gs_iadd p162_102 ?_
        refine Gs_iast p162_103 (by first | rfl | assumption | exact (show isTale _ from by assumption).1 | exact (show isCamp _ _ from by assumption).1 | exact (show isRow _ _ from by assumption).1) (by omega) (by omega) (by omega) ?_
        refine Gs_vret p162_104 rfl ⟨rfl, ?_⟩
        first
          | (exfalso; omega)
          | (have e0 : mv s a 0 n k 0 = vA s a (0 + k) := by rw [mv0 h0 h1, Int.zero_add]
             have hh : 1 ≤ fedI (mv s a 0 n k 0) w := by rw [e0]; omega
             refine MOp.eq ((M3.w h0 h1 hn (w := 1) (by omega) (by omega) (by rw [mi_1])).w h0 h1 hn (w := 7) (by omega) (by omega) (by rw [mi_7])) ?_
             unfold feedV hotV
             rw [if_pos hh, if_pos hh, mv7 h0 h1, r7]
             first
             | (rw [if_neg (by omega)]; done)
             | (rw [if_pos (by omega), Int.add_zero, ← mv7 (n := n) h0 h1, ← mv1 (n := n) h0 h1]
                funext k' w'
                simp only [upV_at]
                by_cases e7 : k' = k ∧ w' = 7
                · rw [if_pos e7, if_neg (by omega), if_neg (by omega), if_neg (by omega), e7.1, e7.2]
                · rw [if_neg e7]
                  by_cases e1 : k' = k ∧ w' = 1
                  · rw [if_pos e1, if_neg (by omega), if_neg (by omega), if_neg (by omega), e1.1, e1.2]
                  · rw [if_neg e1]))
    · refine Gs_aload_n p162_72 rfl rfl ?_
      refine Gs_iconst p162_73 ?_
      refine Gs_iload_n p162_74 rfl rfl ?_
      refine Gs_iadd p162_75 ?_
      refine Gs_iald p162_76 (by first | rfl | assumption | exact (show isTale _ from by assumption).1 | exact (show isCamp _ _ from by assumption).1 | exact (show isRow _ _ from by assumption).1) (by omega) (by omega) (by omega) ?_
      rw [r3]
      refine Gs_goto (tgt := 82) p162_77 (by rfl) ?_
      refine Gs_iast p162_82 (by first | rfl | assumption | exact (show isTale _ from by assumption).1 | exact (show isCamp _ _ from by assumption).1 | exact (show isRow _ _ from by assumption).1) (by omega) (by omega) (by omega) ?_
      have r7 : ∀ v, vA (sA (sA (sA (sA s a (8 + 4 * k + w) (vA s a (8 + 4 * k + w) - 1)) a (0 + k) (fedI (vA s a (0 + k)) w)) a (24 + k) w) a (4 + k) v) a (28 + k) = vA s a (28 + k) := fun v => by rw [vA_sA, if_neg (by omega), vA_sA, if_neg (by omega), vA_sA, if_neg (by omega), vA_sA, if_neg (by omega)]
      refine Gs_aload_n p162_83 rfl rfl ?_
      refine Gs_bipush p162_84 (by decide) ?_
      refine Gs_iload_n p162_86 rfl rfl ?_
      refine Gs_iadd p162_87 ?_
      refine Gs_dup2 p162_88 rfl rfl ?_
      refine Gs_iald p162_89 (by first | rfl | assumption | exact (show isTale _ from by assumption).1 | exact (show isCamp _ _ from by assumption).1 | exact (show isRow _ _ from by assumption).1) (by omega) (by omega) (by omega) ?_
      refine Gs_iload p162_90 rfl rfl ?_
      refine Gs_bipush p162_92 (by decide) ?_
      refine Gs_icmp_ne (tgt := 101) p162_94 (by rfl) (by first | assumption | exact ⟨by omega, by omega⟩ | (split <;> exact ⟨by omega, by omega⟩)) (by first | assumption | exact ⟨by omega, by omega⟩ | (split <;> exact ⟨by omega, by omega⟩)) (fun h94 => ?_) (fun h94 => ?_)
      · refine Gs_iconst p162_101 ?_
        refine Gs_iadd p162_102 ?_
        refine Gs_iast p162_103 (by first | rfl | assumption | exact (show isTale _ from by assumption).1 | exact (show isCamp _ _ from by assumption).1 | exact (show isRow _ _ from by assumption).1) (by omega) (by omega) (by omega) ?_
        refine Gs_vret p162_104 rfl ⟨rfl, ?_⟩
        first
          | (exfalso; omega)
          | (have e0 : mv s a 0 n k 0 = vA s a (0 + k) := by rw [mv0 h0 h1, Int.zero_add]
             have hh : 1 ≤ fedI (mv s a 0 n k 0) w := by rw [e0]; omega
             refine MOp.eq ((M3.w h0 h1 hn (w := 1) (by omega) (by omega) (by rw [mi_1])).w h0 h1 hn (w := 7) (by omega) (by omega) (by rw [mi_7])) ?_
             unfold feedV hotV
             rw [if_pos hh, if_pos hh, mv7 h0 h1, r7]
             first
             | (rw [if_neg (by omega)]; done)
             | (rw [if_pos (by omega), Int.add_zero, ← mv7 (n := n) h0 h1, ← mv1 (n := n) h0 h1]
                funext k' w'
                simp only [upV_at]
                by_cases e7 : k' = k ∧ w' = 7
                · rw [if_pos e7, if_neg (by omega), if_neg (by omega), if_neg (by omega), e7.1, e7.2]
                · rw [if_neg e7]
                  by_cases e1 : k' = k ∧ w' = 1
                  · rw [if_pos e1, if_neg (by omega), if_neg (by omega), if_neg (by omega), e1.1, e1.2]
                  · rw [if_neg e1]))
      · refine Gs_iconst p162_97 ?_
        refine Gs_goto (tgt := 102) p162_98 (by rfl) ?_
        refine Gs_iadd p162_102 ?_
        refine Gs_iast p162_103 (by first | rfl | assumption | exact (show isTale _ from by assumption).1 | exact (show isCamp _ _ from by assumption).1 | exact (show isRow _ _ from by assumption).1) (by omega) (by omega) (by omega) ?_
        refine Gs_vret p162_104 rfl ⟨rfl, ?_⟩
        first
          | (exfalso; omega)
          | (have e0 : mv s a 0 n k 0 = vA s a (0 + k) := by rw [mv0 h0 h1, Int.zero_add]
             have hh : 1 ≤ fedI (mv s a 0 n k 0) w := by rw [e0]; omega
             refine MOp.eq ((M3.w h0 h1 hn (w := 1) (by omega) (by omega) (by rw [mi_1])).w h0 h1 hn (w := 7) (by omega) (by omega) (by rw [mi_7])) ?_
             unfold feedV hotV
             rw [if_pos hh, if_pos hh, mv7 h0 h1, r7]
             first
             | (rw [if_neg (by omega)]; done)
             | (rw [if_pos (by omega), Int.add_zero, ← mv7 (n := n) h0 h1, ← mv1 (n := n) h0 h1]
                funext k' w'
                simp only [upV_at]
                by_cases e7 : k' = k ∧ w' = 7
                · rw [if_pos e7, if_neg (by omega), if_neg (by omega), if_neg (by omega), e7.1, e7.2]
                · rw [if_neg e7]
                  by_cases e1 : k' = k ∧ w' = 1
                  · rw [if_pos e1, if_neg (by omega), if_neg (by omega), if_neg (by omega), e1.1, e1.2]
                  · rw [if_neg e1]))
  · refine Gs_aload_n p162_43 rfl rfl ?_
    refine Gs_iload_n p162_44 rfl rfl ?_
    refine Gs_callS2W p162_45 (by rfl) (Nat.le_of_ble_eq_true rfl) (by decide) (c_goesOut ha h0 (by omega)) (by omega) ?_
    refine Gs_vret p162_48 rfl ⟨rfl, ?_⟩
    have e0 : mv s a 0 n k 0 = vA s a (0 + k) := by rw [mv0 h0 h1, Int.zero_add]
    have hz : fedI (mv s a 0 n k 0) w = 0 := by rw [e0]; omega
    refine MOp.eq (M3.out h0 h1 hn) ?_
    unfold feedV hotV outV
    rw [hz, if_neg (by omega), if_neg (by omega)]
    funext k' w'
    simp only [upV_at]
    by_cases e6 : k' = k ∧ w' = 6
    · simp only [if_pos e6]
    · simp only [if_neg e6]
      by_cases e1 : k' = k ∧ w' = 1
      · simp only [if_pos e1]
      · simp only [if_neg e1]
        by_cases e0 : k' = k ∧ w' = 0
        · simp only [if_pos e0]
        · simp only [if_neg e0]
