/-! a camp as a table of numbers; laid on a shelf, taken back -/
theorem OkI.imp {X : vX} {D mid : Nat} {as : List Value} {s : St} {P P' : Int → St → Prop} (h : OkI X D mid as s P) (hq : ∀ z t, P z t → P' z t) : OkI X D mid as s P' := Ok.imp h (fun v t ⟨z, e, p⟩ => ⟨z, e, hq z t p⟩)
theorem OkV.imp {X : vX} {D mid : Nat} {as : List Value} {s : St} {P P' : St → Prop} (h : OkV X D mid as s P) (hq : ∀ t, P t → P' t) : OkV X D mid as s P' := Ok.imp h (fun v t ⟨e, p⟩ => ⟨e, hq t p⟩)
def cv (s : St) (c : Nat) (n : Int) : Int → Int → Int := fun k w => if (0 ≤ k ∧ k < n) ∧ (0 ≤ w ∧ w < 8) then cg s c k w else 0
def mv (s : St) (a : Nat) (o n : Int) : Int → Int → Int := fun k w => if (0 ≤ k ∧ k < n) ∧ (0 ≤ w ∧ w < 8) then vA s a (o + mi k w) else 0
def upV (V : Int → Int → Int) (k w v : Int) : Int → Int → Int := fun k' w' => if k' = k ∧ w' = w then v else V k' w'
theorem upV_at (V : Int → Int → Int) (k w v k' w' : Int) : upV V k w v k' w' = if k' = k ∧ w' = w then v else V k' w' := rfl
theorem cv_at {s : St} {c : Nat} {n k w : Int} (b0 : 0 ≤ k) (b1 : k < n) (b2 : 0 ≤ w) (b3 : w < 8) : cv s c n k w = cg s c k w := if_pos ⟨⟨b0, b1⟩, b2, b3⟩
theorem mv_at {s : St} {a : Nat} {o n k w : Int} (b0 : 0 ≤ k) (b1 : k < n) (b2 : 0 ≤ w) (b3 : w < 8) : mv s a o n k w = vA s a (o + mi k w) := if_pos ⟨⟨b0, b1⟩, b2, b3⟩
theorem cv_cs {s : St} {c : Nat} {n k w v : Int} (b0 : 0 ≤ k) (b1 : k < n) (b2 : 0 ≤ w) (b3 : w < 8) : cv (cs s c k w v) c n = upV (cv s c n) k w v := by
  funext k' w'
  rw [upV_at]
  by_cases r : (0 ≤ k' ∧ k' < n) ∧ (0 ≤ w' ∧ w' < 8)
  · rw [cv_at r.1.1 r.1.2 r.2.1 r.2.2, cg_cs b2 b3 r.2.1 r.2.2, cv_at r.1.1 r.1.2 r.2.1 r.2.2]
  · unfold cv
    rw [if_neg r, if_neg (show ¬ (k' = k ∧ w' = w) by omega), if_neg r]
theorem mi_inj {k w k' w' : Int} (h0 : 0 ≤ k) (h1 : k < 4) (h2 : 0 ≤ w) (h3 : w < 8) (g0 : 0 ≤ k') (g1 : k' < 4) (g2 : 0 ≤ w') (g3 : w' < 8) (e : mi k w = mi k' w') : k = k' ∧ w = w' := by
  unfold mi at e
  (repeat' split at e) <;> omega
theorem mv_ms {s : St} {a : Nat} {n k w v i : Int} (b0 : 0 ≤ k) (b1 : k < n) (b2 : 0 ≤ w) (b3 : w < 8) (hn : n ≤ 4) (hi : i = mi k w) : mv (sA s a i v) a 0 n = upV (mv s a 0 n) k w v := by
  subst hi
  funext k' w'
  rw [upV_at]
  by_cases r : (0 ≤ k' ∧ k' < n) ∧ (0 ≤ w' ∧ w' < 8)
  · rw [mv_at r.1.1 r.1.2 r.2.1 r.2.2, mv_at r.1.1 r.1.2 r.2.1 r.2.2, vA_sA, Int.zero_add]
    by_cases e : k' = k ∧ w' = w
    · rw [if_pos e, if_pos ⟨rfl, by rw [e.1, e.2]⟩]
    · rw [if_neg e, if_neg (fun h => e (mi_inj r.1.1 (by omega) r.2.1 r.2.2 b0 (by omega) b2 b3 h.2))]
  · unfold mv
    rw [if_neg r, if_neg (show ¬ (k' = k ∧ w' = w) by omega), if_neg r]
theorem CampRel.tab {s : St} {c a : Nat} {o n L K : Int} (h : CampRel s c a o n L K) : cv s c n = mv s a o n := by
  funext k w
  by_cases r : (0 ≤ k ∧ k < n) ∧ (0 ≤ w ∧ w < 8)
  · rw [cv_at r.1.1 r.1.2 r.2.1 r.2.2, mv_at r.1.1 r.1.2 r.2.1 r.2.2, h.v r.1.1 r.1.2 r.2.1 r.2.2]
  · unfold cv mv
    rw [if_neg r, if_neg r]
def GoodV (V : Int → Int → Int) (n L K : Int) : Prop := ∀ k, 0 ≤ k → k < n → (∀ w, 0 ≤ w → w < 8 → loW w ≤ V k w ∧ V k w ≤ hiW w) ∧ V k 7 ≤ K ∧ (V k 0 = 0 → V k 1 = -4 ∧ V k 6 = -4) ∧ (1 ≤ V k 0 → 0 ≤ V k 1 ∧ V k 1 < L)
/-- the places of the companies that there are not -/
def Unu (s t : St) (a : Nat) (n : Int) : Prop := ∀ k w, n ≤ k → k < 4 → 0 ≤ w → w < 8 → vA t a (mi k w) = vA s a (mi k w)
theorem CampRel.good {s : St} {c a : Nat} {o n L K : Int} (h : CampRel s c a o n L K) : GoodV (cv s c n) n L K := by
  obtain ⟨h1, h2, h3, h4, h5, h6⟩ := h
  intro k b0 b1
  obtain ⟨e0, e1, e6, e7, e8, e9, e10⟩ := h4 k b0 b1
  refine ⟨fun w b2 b3 => ?_, ?_, ?_, ?_⟩
  · rw [cv_at b0 b1 b2 b3]; exact h1.b b0 b1 b2 b3
  · rw [cv_at b0 b1 (by omega) (by omega)]; exact e8
  · rw [cv_at b0 b1 (by omega) (by omega), cv_at b0 b1 (by omega) (by omega), cv_at b0 b1 (by omega) (by omega)]; exact e9
  · rw [cv_at b0 b1 (by omega) (by omega), cv_at b0 b1 (by omega) (by omega)]; exact e10
theorem CampRel.of {s t : St} {c a : Nat} {n L K K0 : Int} {V : Int → Int → Int} (h : CampRel s c a 0 n L K0) (e1 : vF t (c + 1) 1 = vF s (c + 1) 1) (e2 : vF t c 2 = vA t a 32) (b0 : 0 ≤ vF t c 2) (b1 : vF t c 2 ≤ 24 * K) (b2 : K ≤ 4000) (v1 : cv t c n = V) (v2 : mv t a 0 n = V) (g : GoodV V n L K) (u : Unu s t a n) : CampRel t c a 0 n L K := by
  obtain ⟨h1, h2, h3, h4, h5, h6⟩ := h
  obtain ⟨k1, k2, k3, k4, k5, k6⟩ := h1
  have C : ∀ k w, 0 ≤ k → k < n → 0 ≤ w → w < 8 → cg t c k w = V k w := fun k w c0 c1 c2 c3 => by rw [← v1, cv_at c0 c1 c2 c3]
  have M : ∀ k w, 0 ≤ k → k < n → 0 ≤ w → w < 8 → vA t a (0 + mi k w) = V k w := fun k w c0 c1 c2 c3 => by rw [← v2, mv_at c0 c1 c2 c3]
  refine ⟨⟨k1, k2, by rw [e1]; exact k3, b0, by omega, fun k w c0 c1 c2 c3 => ?_⟩, by rw [Int.zero_add]; exact e2, b1, fun k c0 c1 => ?_, fun k w c0 c1 c2 c3 => ?_, fun k c0 c1 => ?_⟩
  · have := C k w c0 c1 c2 c3
    have g1 := (g k c0 c1).1 w c2 c3
    rw [← this] at g1
    exact g1
  · obtain ⟨g1, g2, g3, g4⟩ := g k c0 c1
    rw [C k 0 c0 c1 (by omega) (by omega), C k 1 c0 c1 (by omega) (by omega), C k 6 c0 c1 (by omega) (by omega), C k 7 c0 c1 (by omega) (by omega)]
    refine ⟨?_, ?_, ?_, ?_, g2, g3, g4⟩
    · rw [← M k 0 c0 c1 (by omega) (by omega), mi_0]
    · rw [← M k 1 c0 c1 (by omega) (by omega), mi_1, Int.add_assoc]
    · rw [← M k 6 c0 c1 (by omega) (by omega), mi_6, Int.add_assoc]
    · rw [← M k 7 c0 c1 (by omega) (by omega), mi_7, Int.add_assoc]
  · rw [C k (2 + w) c0 c1 (by omega) (by omega), ← M k (2 + w) c0 c1 (by omega) (by omega), mi_2 c2 c3, show (0 : Int) + (8 + 4 * k + w) = 0 + 8 + 4 * k + w by omega]
  · have q := h6 k c0 c1
    have u0 := u k 0 c0 c1 (by omega) (by omega)
    have u7 := u k 7 c0 c1 (by omega) (by omega)
    rw [mi_0] at u0
    rw [mi_7] at u7
    refine ⟨by rw [Int.zero_add] at q ⊢; rw [u0]; exact q.1, by rw [Int.zero_add] at q ⊢; rw [u7]; exact q.2.1, fun w d0 d1 => ?_⟩
    have u2 := u k (2 + w) c0 c1 (by omega) (by omega)
    have q2 := q.2.2 w d0 d1
    rw [mi_2 d0 d1] at u2
    rw [Int.zero_add] at q2 ⊢
    rw [u2]; exact q2
theorem CampRel.tr {s t : St} {c c' a a' : Nat} {o o' n L K : Int} (h : CampRel s c a o n L K) (e1 : vF t (c' + 1) 1 = vF s (c + 1) 1) (e2 : vF t c' 2 = vF s c 2) (e3 : ∀ z, 0 ≤ z → z < 8 * n → vA t (c' + 2) z = vA s (c + 2) z) (e4 : ∀ z, 0 ≤ z → z < 33 → vA t a' (o' + z) = vA s a (o + z)) : CampRel t c' a' o' n L K := by
  obtain ⟨h1, h2, h3, h4, h5, h6⟩ := h
  obtain ⟨k1, k2, k3, k4, k5, k6⟩ := h1
  have C : ∀ k w, 0 ≤ k → k < n → 0 ≤ w → w < 8 → cg t c' k w = cg s c k w := fun k w c0 c1 c2 c3 => e3 _ (by omega) (by omega)
  refine ⟨⟨k1, k2, by rw [e1]; exact k3, by rw [e2]; exact k4, by rw [e2]; exact k5, fun k w c0 c1 c2 c3 => ?_⟩, by rw [e2, e4 _ (by omega) (by omega)]; exact h2, by rw [e2]; exact h3, fun k c0 c1 => ?_, fun k w c0 c1 c2 c3 => ?_, fun k c0 c1 => ?_⟩
  · rw [e3 _ (by omega) (by omega)]; exact k6 k w c0 c1 c2 c3
  · rw [C k 0 c0 c1 (by omega) (by omega), C k 1 c0 c1 (by omega) (by omega), C k 6 c0 c1 (by omega) (by omega), C k 7 c0 c1 (by omega) (by omega), e4 _ (by omega) (by omega), show o' + 4 + k = o' + (4 + k) by omega, show o' + 24 + k = o' + (24 + k) by omega, show o' + 28 + k = o' + (28 + k) by omega, e4 _ (by omega) (by omega), e4 _ (by omega) (by omega), e4 _ (by omega) (by omega), ← Int.add_assoc, ← Int.add_assoc, ← Int.add_assoc]
    exact h4 k c0 c1
  · rw [C k (2 + w) c0 c1 (by omega) (by omega), show o' + 8 + 4 * k + w = o' + (8 + 4 * k + w) by omega, e4 _ (by omega) (by omega), show o + (8 + 4 * k + w) = o + 8 + 4 * k + w by omega]
    exact h5 k w c0 c1 c2 c3
  · obtain ⟨q0, q1, q2⟩ := h6 k c0 c1
    refine ⟨by rw [e4 _ (by omega) (by omega)]; exact q0, by rw [show o' + 28 + k = o' + (28 + k) by omega, e4 _ (by omega) (by omega), ← Int.add_assoc]; exact q1, fun w d0 d1 => ?_⟩
    rw [show o' + 8 + 4 * k + w = o' + (8 + 4 * k + w) by omega, e4 _ (by omega) (by omega), show o + (8 + 4 * k + w) = o + 8 + 4 * k + w by omega]
    exact q2 w d0 d1
theorem CampRel.up {s : St} {c a : Nat} {o n L K K' : Int} (h : CampRel s c a o n L K) (hk : K ≤ K') : CampRel s c a o n L K' := by
  obtain ⟨h1, h2, h3, h4, h5, h6⟩ := h
  exact ⟨h1, h2, by omega, fun k a b => by obtain ⟨e1, e2, e3, e4, e5, e6⟩ := h4 k a b; exact ⟨e1, e2, e3, e4, by omega, e6⟩, h5, h6⟩
theorem pushT_A (s : St) (r N c i : Nat) (z : Int) : vA (pushT s r N c) i z = if i = slI s r N (vF s r 2) + 2 ∧ 0 ≤ z ∧ z < vF s (c + 1) 1 then vA s (c + 2) z else vA s i z := rfl
theorem pushT_F (s : St) (r N c i k : Nat) : vF (pushT s r N c) i k = if i = r ∧ k = 2 then vF s r 2 + 1 else if i = slI s r N (vF s r 2) ∧ k = 2 then vF s c 2 else if i = slI s r N (vF s r 2) + 1 ∧ k = 1 then vF s (c + 1) 1 else vF s i k := rfl
theorem popS_A (s : St) (r N c i : Nat) (z : Int) : vA (popS s r N c) i z = if i = c + 2 ∧ 0 ≤ z ∧ z < vF s (slI s r N (vF s r 2 - 1) + 1) 1 then vA s (slI s r N (vF s r 2 - 1) + 2) z else vA s i z := rfl
theorem popS_F (s : St) (r N c i k : Nat) : vF (popS s r N c) i k = if i = r ∧ k = 2 then vF s r 2 - 1 else if i = c ∧ k = 2 then vF s (slI s r N (vF s r 2 - 1)) 2 else if i = c + 1 ∧ k = 1 then vF s (slI s r N (vF s r 2 - 1) + 1) 1 else vF s i k := rfl
theorem sl20 (s : St) (p : Int) : slI s 20 8 p = 22 + 3 * ((vF s 20 1 + p) % 8).toNat := rfl
theorem sl46 (s : St) (p : Int) : slI s 46 2 p = 48 + 3 * ((vF s 46 1 + p) % 2).toNat := rfl
/-- a shelf's push leaves all else -/
theorem push20_A {s : St} {i : Nat} (h : i < 22 ∨ 46 ≤ i) (z : Int) : vA (pushS s 20 8 14) i z = vA s i z := by
  unfold pushS
  split
  · rw [pushT_A, sl20, if_neg (by omega)]; rfl
  · rw [pushT_A, sl20, if_neg (by omega)]
theorem push20_F {s : St} {i k : Nat} (h : i < 20 ∨ 46 ≤ i) : vF (pushS s 20 8 14) i k = vF s i k := by
  unfold pushS
  split
  · rw [pushT_F, sl20, if_neg (by omega), if_neg (by omega), if_neg (by omega), pushF_F, if_neg (by omega), if_neg (by omega)]
  · rw [pushT_F, sl20, if_neg (by omega), if_neg (by omega), if_neg (by omega)]
theorem push46_A {s : St} {i : Nat} (h : i < 48 ∨ 54 ≤ i) (z : Int) : vA (pushS s 46 2 14) i z = vA s i z := by
  unfold pushS
  split
  · rw [pushT_A, sl46, if_neg (by omega)]; rfl
  · rw [pushT_A, sl46, if_neg (by omega)]
theorem push46_F {s : St} {i k : Nat} (h : i < 46 ∨ 54 ≤ i) : vF (pushS s 46 2 14) i k = vF s i k := by
  unfold pushS
  split
  · rw [pushT_F, sl46, if_neg (by omega), if_neg (by omega), if_neg (by omega), pushF_F, if_neg (by omega), if_neg (by omega)]
  · rw [pushT_F, sl46, if_neg (by omega), if_neg (by omega), if_neg (by omega)]
theorem remT_A (s : St) (i : Nat) (z : Int) : vA (remT s) i z = if i = 100 ∧ 33 * vF s 95 5 ≤ z ∧ z < 33 * vF s 95 5 + 33 then vA s 98 (z - 33 * vF s 95 5 + 0) else vA s i z := rfl
theorem remT_F (s : St) (i k : Nat) : vF (remT s) i k = if i = 95 ∧ k = 5 then vF s 95 5 + 1 else vF s i k := rfl
theorem remF_A (s : St) (i : Nat) (z : Int) : vA (remF s) i z = if i = 100 ∧ 0 ≤ z ∧ z < 231 then vA s 100 (z + 33) else vA s i z := rfl
theorem remF_F (s : St) (i k : Nat) : vF (remF s) i k = if i = 95 ∧ k = 5 then vF s 95 5 - 1 else vF s i k := rfl
theorem rem_A {s : St} {i : Nat} (h : i ≠ 100) (z : Int) : vA (remS s) i z = vA s i z := by
  unfold remS
  split
  · rw [remT_A, if_neg (fun e => h e.1), remF_A, if_neg (fun e => h e.1)]
  · rw [remT_A, if_neg (fun e => h e.1)]
theorem rem_F {s : St} {i k : Nat} (h : ¬ (i = 95 ∧ k = 5)) : vF (remS s) i k = vF s i k := by
  unfold remS
  split
  · rw [remT_F, if_neg h, remF_F, if_neg h]
  · rw [remT_F, if_neg h]
theorem RelPast.push {s t1 t : St} {n L K : Int} (h : RelPast s n L K) (hc : CampRel s 14 98 0 n L K) (eA : ∀ a z, 20 ≤ a → a < 46 → vA t a z = vA (pushS s 20 8 14) a z) (eF : ∀ a k, 20 ≤ a → a < 46 → vF t a k = vF (pushS s 20 8 14) a k) (f5 : vF t1 95 5 = vF s 95 5) (f98 : ∀ z, vA t1 98 z = vA s 98 z) (f100 : ∀ z, vA t1 100 z = vA s 100 z) (e5 : vF t 95 5 = vF (remS t1) 95 5) (e100 : ∀ z, vA t 100 z = vA (remS t1) 100 z) : RelPast t n L (K + 1) := by
  obtain ⟨h1, h2, h3, h4, h5, h6⟩ := h
  have hn : 0 ≤ n ∧ n ≤ 4 ∧ vF s 15 1 = 8 * n := ⟨hc.1.1, hc.1.2.1, hc.1.2.2.1⟩
  by_cases c : vF s 20 2 = 8
  · have ePush : pushS s 20 8 14 = pushT (pushF s 20) 20 8 14 := if_pos (by omega)
    have eRem : remS t1 = remT (remF t1) := if_pos (by omega)
    rw [ePush] at eA eF
    rw [eRem] at e5 e100
    have p1 : vF (pushF s 20) 20 1 = vF s 20 1 + 1 := rfl
    have p2 : vF (pushF s 20) 20 2 = vF s 20 2 - 1 := rfl
    have r5 : vF (remF t1) 95 5 = vF t1 95 5 - 1 := rfl
    have g1 : vF t 20 1 = vF s 20 1 + 1 := by rw [eF 20 1 (by omega) (by omega), pushT_F, if_neg (by omega), sl20, if_neg (by omega), if_neg (by omega), p1]
    have g2 : vF t 20 2 = 8 := by rw [eF 20 2 (by omega) (by omega), pushT_F, if_pos ⟨rfl, rfl⟩, p2]; omega
    have g5 : vF t 95 5 = 8 := by rw [e5, remT_F, if_pos ⟨rfl, rfl⟩, r5]; omega
    refine ⟨by omega, by omega, by omega, by omega, by omega, fun j hj => ?_⟩
    rw [g1, show vF s 20 1 + 1 + (j : Int) = vF s 20 1 + ((j + 1 : Nat) : Int) by omega]
    by_cases cj : j = 7
    · subst cj
      refine CampRel.up (hc.tr (c' := 22 + 3 * ((vF s 20 1 + ((7 + 1 : Nat) : Int)) % 8).toNat) ?_ ?_ (fun z z0 z1 => ?_) (fun z z0 z1 => ?_)) (show K ≤ K + 1 by omega)
      · rw [eF _ _ (by omega) (by omega), pushT_F, sl20, p1, p2, if_neg (by omega), if_neg (by omega), if_pos ⟨by omega, rfl⟩]; rfl
      · rw [eF _ _ (by omega) (by omega), pushT_F, sl20, p1, p2, if_neg (by omega), if_pos ⟨by omega, rfl⟩]; rfl
      · rw [eA _ _ (by omega) (by omega), pushT_A, sl20, p1, p2, if_pos ⟨by omega, z0, by show z < vF s 15 1; omega⟩]; rfl
      · rw [e100, remT_A, r5, if_pos ⟨rfl, by omega, by omega⟩, remF_A, if_neg (by omega), f98]
        congr 1; omega
    · have q := h6 (j + 1) (by omega)
      refine CampRel.up (q.tr ?_ ?_ (fun z z0 z1 => ?_) (fun z z0 z1 => ?_)) (show K ≤ K + 1 by omega)
      · rw [eF _ _ (by omega) (by omega), pushT_F, sl20, p1, p2, if_neg (by omega), if_neg (by omega), if_neg (by omega), pushF_F, if_neg (by omega), if_neg (by omega)]
      · rw [eF _ _ (by omega) (by omega), pushT_F, sl20, p1, p2, if_neg (by omega), if_neg (by omega), if_neg (by omega), pushF_F, if_neg (by omega), if_neg (by omega)]
      · rw [eA _ _ (by omega) (by omega), pushT_A, sl20, p1, p2, if_neg (by omega)]; rfl
      · rw [e100, remT_A, r5, if_neg (by omega), remF_A, if_pos ⟨rfl, by omega, by omega⟩, f100]
        congr 1; omega
  · have ePush : pushS s 20 8 14 = pushT s 20 8 14 := if_neg (by omega)
    have eRem : remS t1 = remT t1 := if_neg (by omega)
    rw [ePush] at eA eF
    rw [eRem] at e5 e100
    have g1 : vF t 20 1 = vF s 20 1 := by rw [eF 20 1 (by omega) (by omega), pushT_F, if_neg (by omega), sl20, if_neg (by omega), if_neg (by omega)]
    have g2 : vF t 20 2 = vF s 20 2 + 1 := by rw [eF 20 2 (by omega) (by omega), pushT_F, if_pos ⟨rfl, rfl⟩]
    have g5 : vF t 95 5 = vF s 20 2 + 1 := by rw [e5, remT_F, if_pos ⟨rfl, rfl⟩]; omega
    refine ⟨by omega, by omega, by omega, by omega, by omega, fun j hj => ?_⟩
    rw [g1]
    by_cases cj : (j : Int) = vF s 20 2
    · refine CampRel.up (hc.tr (c' := 22 + 3 * ((vF s 20 1 + (j : Int)) % 8).toNat) ?_ ?_ (fun z z0 z1 => ?_) (fun z z0 z1 => ?_)) (show K ≤ K + 1 by omega)
      · rw [eF _ _ (by omega) (by omega), pushT_F, sl20, if_neg (by omega), if_neg (by omega), if_pos ⟨by omega, rfl⟩]
      · rw [eF _ _ (by omega) (by omega), pushT_F, sl20, if_neg (by omega), if_pos ⟨by omega, rfl⟩]
      · rw [eA _ _ (by omega) (by omega), pushT_A, sl20, if_pos ⟨by omega, z0, by show z < vF s 15 1; omega⟩]
      · rw [e100, remT_A, if_pos ⟨rfl, by omega, by omega⟩, f98]
        congr 1; omega
    · refine CampRel.up ((h6 j (by omega)).tr ?_ ?_ (fun z z0 z1 => ?_) (fun z z0 z1 => ?_)) (show K ≤ K + 1 by omega)
      · rw [eF _ _ (by omega) (by omega), pushT_F, sl20, if_neg (by omega), if_neg (by omega), if_neg (by omega)]
      · rw [eF _ _ (by omega) (by omega), pushT_F, sl20, if_neg (by omega), if_neg (by omega), if_neg (by omega)]
      · rw [eA _ _ (by omega) (by omega), pushT_A, sl20, if_neg (by omega)]
      · rw [e100, remT_A, if_neg (by omega), f100]
/-- behind a call that is remembered -/
theorem Rel.pushed {K : Int} {s t1 t3 : St} (hR : Rel K s) (h1A : ∀ a z, a ≠ 16 → vA t1 a z = vA (pushS s 20 8 14) a z) (h1F : ∀ a k, ¬ (a = 14 ∧ k = 2) → vF t1 a k = vF (pushS s 20 8 14) a k) (h3A : ∀ a z, a ≠ 98 → vA t3 a z = vA (remS t1) a z) (h3F : ∀ a k, vF t3 a k = vF (remS t1) a k) (hC : CampRel t3 14 98 0 (vA s 96 2) (vF s 5 4) (K + 1)) : Rel (K + 1) t3 := by
  obtain ⟨h0, h1, h2, h3, h4, h5, h6⟩ := hR
  have A : ∀ a z, (a < 22 ∨ 46 ≤ a) → a ≠ 16 → a ≠ 98 → a ≠ 100 → vA t3 a z = vA s a z := fun a z b0 b1 b2 b3 => by rw [h3A a z b2, rem_A b3, h1A a z b1, push20_A b0]
  have F : ∀ a k, (a < 20 ∨ 46 ≤ a) → ¬ (a = 14 ∧ k = 2) → ¬ (a = 95 ∧ k = 5) → vF t3 a k = vF s a k := fun a k b0 b1 b2 => by rw [h3F a k, rem_F b2, h1F a k b1, push20_F b0]
  have e96 : ∀ z, vA t3 96 z = vA s 96 z := fun z => A 96 z (by omega) (by omega) (by omega) (by omega)
  have e5 : vF t3 5 4 = vF s 5 4 := F 5 4 (by omega) (by omega) (by omega)
  refine ⟨by omega, h1.cong (F _ _ (by omega) (by omega) (by omega)) (F _ _ (by omega) (by omega) (by omega)) (fun z => A _ z (by omega) (by omega) (by omega) (by omega)) (fun z => A _ z (by omega) (by omega) (by omega) (by omega)), h2.cong (F _ _ (by omega) (by omega) (by omega)) (F _ _ (by omega) (by omega) (by omega)) (fun z => A _ z (by omega) (by omega) (by omega) (by omega)) (fun z => A _ z (by omega) (by omega) (by omega) (by omega)), h3.cong e5 (F _ _ (by omega) (by omega) (by omega)) (F _ _ (by omega) (by omega) (by omega)) (fun z => A _ z (by omega) (by omega) (by omega) (by omega)) (fun z => A _ z (by omega) (by omega) (by omega) (by omega)) e96, ?_, ?_, ?_⟩
  · rw [e96, e5]; exact hC
  · rw [e96, e5]
    refine h5.push (t1 := t1) h4 (fun a z b0 b1 => ?_) (fun a k b0 b1 => ?_) ?_ (fun z => ?_) (fun z => ?_) (h3F _ _) (fun z => h3A _ z (by omega))
    · rw [h3A a z (by omega), rem_A (by omega), h1A a z (by omega)]
    · rw [h3F a k, rem_F (by omega), h1F a k (by omega)]
    · rw [h1F _ _ (by omega), push20_F (by omega)]
    · rw [h1A _ z (by omega), push20_A (by omega)]
    · rw [h1A _ z (by omega), push20_A (by omega)]
  · rw [e96, e5]
    exact (h6.cong (fun a ha z => A a z (by omega) (by omega) (by omega) (by omega)) (fun a k ha => F a k (by omega) (by omega) (by omega))).more
theorem Rel.ok20 {K : Int} {s : St} (hR : Rel K s) (hK : K < 512) : 0 ≤ vF s 20 1 ∧ vF s 20 1 < 100000 ∧ 0 ≤ vF s 20 2 ∧ vF s 20 2 ≤ 8 ∧ vF s 95 5 = vF s 20 2 := ⟨hR.2.2.2.2.2.1.1, by have := hR.2.2.2.2.2.1.2.1; omega, hR.2.2.2.2.2.1.2.2.1, hR.2.2.2.2.2.1.2.2.2.1, hR.2.2.2.2.2.1.2.2.2.2.1⟩