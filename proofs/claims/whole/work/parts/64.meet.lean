/-! meet: pairs of lines in the order in which they are found -/
/-- how many, the pairs, the one ahead of each, the wood, which are found -/
abbrev BS : Type := Int × (Int → Int) × (Int → Int) × (Int → Int) × (Int → Int)
def up1 (f : Int → Int) (i v : Int) : Int → Int := fun j => if j = i then v else f j
theorem up1_at (f : Int → Int) (i v j : Int) : up1 f i v j = if j = i then v else f j := rfl
def reB (B : BS) (q a w : Int) : BS := if B.2.2.2.2 q = 0 then (B.1 + 1, up1 B.2.1 B.1 q, up1 B.2.2.1 B.1 a, up1 B.2.2.2.1 B.1 w, up1 B.2.2.2.2 q 1) else B
def wdB (C : Int → Int → Int) (p k : Int) (B : BS) : Nat → BS
  | 0 => B
  | w + 1 => reB (wdB C p k B w) (C (p / 9) w * 9 + C (p % 9) w) k w
theorem wdB_s {C : Int → Int → Int} {p k j : Int} {B : BS} (hj : 0 ≤ j) : wdB C p k B (j + 1).toNat = reB (wdB C p k B j.toNat) (C (p / 9) j * 9 + C (p % 9) j) k j := by
  rw [show (j + 1).toNat = j.toNat + 1 by omega]
  show reB _ (C (p / 9) (j.toNat : Int) * 9 + C (p % 9) (j.toNat : Int)) k (j.toNat : Int) = _
  rw [show ((j.toNat : Nat) : Int) = j by omega]
def bfs (C : Int → Int → Int) : Nat → Int → BS → Option (Int × BS)
  | 0, _, _ => none
  | f + 1, k, B => if k < B.1 then (if B.2.1 k / 9 = B.2.1 k % 9 then some (k, B) else bfs C f (k + 1) (wdB C (B.2.1 k) k B 4)) else none
theorem bfs_s (C : Int → Int → Int) (f : Nat) (k : Int) (B : BS) : bfs C (f + 1) k B = if k < B.1 then (if B.2.1 k / 9 = B.2.1 k % 9 then some (k, B) else bfs C f (k + 1) (wdB C (B.2.1 k) k B 4)) else none := rfl
/-- what is kept of it -/
def BI (L : Int) (B : BS) : Prop := 1 ≤ B.1 ∧ B.1 = sm B.2.2.2.2 81 ∧ (∀ p, B.2.2.2.2 p = 0 ∨ B.2.2.2.2 p = 1) ∧ (∀ j, 0 ≤ j → j < B.1 → 0 ≤ B.2.1 j ∧ B.2.1 j / 9 < L ∧ B.2.1 j % 9 < L ∧ B.2.2.2.2 (B.2.1 j) = 1) ∧ (∀ i j, 0 ≤ i → i < B.1 → 0 ≤ j → j < B.1 → B.2.1 i = B.2.1 j → i = j) ∧ (∀ p, 0 ≤ p → p < 81 → B.2.2.2.2 p = 1 → ∃ j, 0 ≤ j ∧ j < B.1 ∧ B.2.1 j = p) ∧ (∀ j, 0 < j → j < B.1 → 0 ≤ B.2.2.1 j ∧ B.2.2.1 j < j ∧ 0 ≤ B.2.2.2.1 j ∧ B.2.2.2.1 j < 4)
theorem sm_up {f : Int → Int} {p v : Int} (h0 : 0 ≤ p) (n : Nat) (hn : p < (n : Int)) : smN (up1 f p v) n = smN f n + v - f p := by
  induction n with
  | zero => omega
  | succ n ih =>
    show smN (up1 f p v) n + up1 f p v n = smN f n + f n + v - f p
    by_cases e : p = n
    · rw [smN_cong (f := up1 f p v) (g := f) n (fun k a b => by rw [up1_at, if_neg (by omega)]), up1_at, if_pos e.symm, e]
      omega
    · rw [ih (by omega), up1_at, if_neg (fun q => e q.symm)]
      omega
theorem BI.le {L : Int} {B : BS} (h : BI L B) : B.1 ≤ 81 := by
  have := sm_b (f := B.2.2.2.2) (a := 0) (b := 1) (n := 81) (by omega) (fun k _ _ => by have := h.2.2.1 k; omega)
  have e := h.2.1
  omega
theorem BI.lt {L : Int} {B : BS} (h : BI L B) {q : Int} (q0 : 0 ≤ q) (q1 : q < 81) (hq : B.2.2.2.2 q = 0) : B.1 < 81 := by
  have := sm_b (f := up1 B.2.2.2.2 q 1) (a := 0) (b := 1) (n := 81) (by omega) (fun k _ _ => by rw [up1_at]; have := h.2.2.1 k; split <;> omega)
  have e := h.2.1
  have s : sm (up1 B.2.2.2.2 q 1) 81 = sm B.2.2.2.2 81 + 1 - B.2.2.2.2 q := sm_up q0 81 (by omega)
  omega
theorem BI.re {L : Int} {B : BS} (h : BI L B) (hL : L ≤ 9) {q a w : Int} (q0 : 0 ≤ q) (q1 : q / 9 < L) (q2 : q % 9 < L) (a0 : 0 ≤ a) (a1 : a < B.1) (w0 : 0 ≤ w) (w1 : w < 4) : BI L (reB B q a w) ∧ B.1 ≤ (reB B q a w).1 ∧ (∀ j, j < B.1 → (reB B q a w).2.1 j = B.2.1 j) := by
  unfold reB
  by_cases e : B.2.2.2.2 q = 0
  · rw [if_pos e]
    have lt := h.lt q0 (by omega) e
    obtain ⟨h1, h2, h3, h4, h5, h6, h7⟩ := h
    refine ⟨⟨?_, ?_, ?_, ?_, ?_, ?_, ?_⟩, ?_, ?_⟩
    · show 1 ≤ B.1 + 1; omega
    · show B.1 + 1 = sm (up1 B.2.2.2.2 q 1) 81
      have s : sm (up1 B.2.2.2.2 q 1) 81 = sm B.2.2.2.2 81 + 1 - B.2.2.2.2 q := sm_up q0 81 (by omega)
      omega
    · intro p
      show up1 B.2.2.2.2 q 1 p = 0 ∨ up1 B.2.2.2.2 q 1 p = 1
      rw [up1_at]; have := h3 p
      split <;> omega
    · intro j j0 j1
      have j1 : j < B.1 + 1 := j1
      show 0 ≤ up1 B.2.1 B.1 q j ∧ up1 B.2.1 B.1 q j / 9 < L ∧ up1 B.2.1 B.1 q j % 9 < L ∧ up1 B.2.2.2.2 q 1 (up1 B.2.1 B.1 q j) = 1
      rw [up1_at B.2.1]
      by_cases ej : j = B.1
      · rw [if_pos ej, up1_at, if_pos rfl]; exact ⟨q0, q1, q2, rfl⟩
      · rw [if_neg ej, up1_at]
        obtain ⟨f1, f2, f3, f4⟩ := h4 j j0 (by omega)
        refine ⟨f1, f2, f3, ?_⟩
        split
        · rfl
        · exact f4
    · intro i j i0 i1 j0 j1 ee
      have i1 : i < B.1 + 1 := i1
      have j1 : j < B.1 + 1 := j1
      have ee : up1 B.2.1 B.1 q i = up1 B.2.1 B.1 q j := ee
      rw [up1_at, up1_at] at ee
      by_cases ei : i = B.1
      · by_cases ej : j = B.1
        · omega
        · rw [if_pos ei, if_neg ej] at ee
          have := (h4 j j0 (by omega)).2.2.2
          rw [← ee] at this; omega
      · by_cases ej : j = B.1
        · rw [if_neg ei, if_pos ej] at ee
          have := (h4 i i0 (by omega)).2.2.2
          rw [ee] at this; omega
        · rw [if_neg ei, if_neg ej] at ee
          exact h5 i j i0 (by omega) j0 (by omega) ee
    · intro p p0 p1 hp
      have hp : up1 B.2.2.2.2 q 1 p = 1 := hp
      rw [up1_at] at hp
      by_cases ep : p = q
      · refine ⟨B.1, by omega, by show B.1 < B.1 + 1; omega, ?_⟩
        show up1 B.2.1 B.1 q B.1 = p
        rw [up1_at, if_pos rfl, ep]
      · rw [if_neg ep] at hp
        obtain ⟨j, j0, j1, j2⟩ := h6 p p0 p1 hp
        refine ⟨j, j0, by show j < B.1 + 1; omega, ?_⟩
        show up1 B.2.1 B.1 q j = p
        rw [up1_at, if_neg (by omega), j2]
    · intro j j0 j1
      have j1 : j < B.1 + 1 := j1
      show 0 ≤ up1 B.2.2.1 B.1 a j ∧ up1 B.2.2.1 B.1 a j < j ∧ 0 ≤ up1 B.2.2.2.1 B.1 w j ∧ up1 B.2.2.2.1 B.1 w j < 4
      rw [up1_at, up1_at]
      by_cases ej : j = B.1
      · rw [if_pos ej, if_pos ej]; exact ⟨a0, by omega, w0, w1⟩
      · rw [if_neg ej, if_neg ej]; exact h7 j j0 (by omega)
    · show B.1 ≤ B.1 + 1; omega
    · intro j hj
      show up1 B.2.1 B.1 q j = _
      rw [up1_at, if_neg (by omega)]
  · rw [if_neg e]
    exact ⟨h, Int.le_refl _, fun _ _ => rfl⟩
theorem BI.wd {L : Int} {B : BS} {C : Int → Int → Int} (h : BI L B) (hL : L ≤ 9) (hC : ∀ l w, 0 ≤ l → l < L → 0 ≤ w → w < 4 → 0 ≤ C l w ∧ C l w < L) {k : Int} (k0 : 0 ≤ k) (k1 : k < B.1) (n : Nat) (hn : n ≤ 4) : BI L (wdB C (B.2.1 k) k B n) ∧ B.1 ≤ (wdB C (B.2.1 k) k B n).1 ∧ (∀ j, j < B.1 → (wdB C (B.2.1 k) k B n).2.1 j = B.2.1 j) := by
  induction n with
  | zero => exact ⟨h, Int.le_refl _, fun _ _ => rfl⟩
  | succ n ih =>
    obtain ⟨i1, i2, i3⟩ := ih (by omega)
    have p := h.2.2.2.1 k k0 k1
    have c1 := hC (B.2.1 k / 9) n (by omega) p.2.1 (by omega) (by omega)
    have c2 := hC (B.2.1 k % 9) n (by omega) p.2.2.1 (by omega) (by omega)
    obtain ⟨r1, r2, r3⟩ := i1.re hL (q := C (B.2.1 k / 9) n * 9 + C (B.2.1 k % 9) n) (a := k) (w := n) (by omega) (by omega) (by omega) k0 (by omega) (by omega) (by omega)
    exact ⟨r1, Int.le_trans i2 r2, fun j hj => (r3 j (by omega)).trans (i3 j hj)⟩
def B0 (q : Int) : BS := reB (0, fun _ => 0, fun _ => 0, fun _ => 0, fun _ => 0) q (-4) (-4)
theorem B0_eq (q : Int) : B0 q = (1, up1 (fun _ => 0) 0 q, up1 (fun _ => 0) 0 (-4), up1 (fun _ => 0) 0 (-4), up1 (fun _ => 0) q 1) := by
  unfold B0 reB
  exact if_pos rfl
theorem BI.b0 {L q : Int} (hL : L ≤ 9) (q0 : 0 ≤ q) (q1 : q / 9 < L) (q2 : q % 9 < L) : BI L (B0 q) := by
  rw [B0_eq]
  refine ⟨by show (1 : Int) ≤ 1; omega, ?_, ?_, ?_, ?_, ?_, ?_⟩
  · show (1 : Int) = sm (up1 (fun _ => 0) q 1) 81
    have s : sm (up1 (fun _ => 0) q 1) 81 = sm (fun _ => 0) 81 + 1 - 0 := sm_up q0 81 (by omega)
    have z := sm_0 (f := fun _ => 0) (n := 0) (m := 81) (by omega) (by omega) (fun _ _ _ => rfl)
    rw [sm_zero] at z
    omega
  · intro p
    show up1 (fun _ => 0) q 1 p = 0 ∨ up1 (fun _ => 0) q 1 p = 1
    rw [up1_at]; split <;> omega
  · intro j j0 j1
    have j1 : j < 1 := j1
    show 0 ≤ up1 (fun _ => 0) 0 q j ∧ up1 (fun _ => 0) 0 q j / 9 < L ∧ up1 (fun _ => 0) 0 q j % 9 < L ∧ up1 (fun _ => 0) q 1 (up1 (fun _ => 0) 0 q j) = 1
    rw [up1_at (fun _ => 0) 0, if_pos (by omega), up1_at, if_pos rfl]
    exact ⟨q0, q1, q2, rfl⟩
  · intro i j i0 i1 j0 j1 _
    have i1 : i < 1 := i1
    have j1 : j < 1 := j1
    omega
  · intro p p0 p1 hp
    have hp : up1 (fun _ => 0) q 1 p = 1 := hp
    rw [up1_at] at hp
    by_cases e : p = q
    · exact ⟨0, by omega, by show (0 : Int) < 1; omega, e.symm⟩
    · rw [if_neg e] at hp; omega
  · intro j j0 j1
    have j1 : j < 1 := j1
    omega
/-- the way back -/
def pth (A : Int → Int) (e : Int) : Nat → Int
  | 0 => e
  | i + 1 => A (pth A e i)
def pthOk (A : Int → Int) (e : Int) (n : Nat) : Prop := pth A e n = 0 ∧ ∀ i, i < n → 0 < pth A e i
theorem pth_sh (A : Int → Int) (e : Int) (i : Nat) : pth A e (i + 1) = pth A (A e) i := by
  induction i with
  | zero => rfl
  | succ i ih =>
    show A (pth A e (i + 1)) = A (pth A (A e) i)
    rw [ih]
theorem pth_ex {A : Int → Int} {M : Int} (h : ∀ j, 0 < j → j < M → 0 ≤ A j ∧ A j < j) (m : Nat) : ∀ e : Int, 0 ≤ e → e < M → e.toNat ≤ m → ∃ n : Nat, (n : Int) ≤ e ∧ pthOk A e n := by
  induction m with
  | zero =>
    intro e e0 e1 hm
    exact ⟨0, by omega, show e = 0 by omega, fun i hi => absurd hi (by omega)⟩
  | succ m ih =>
    intro e e0 e1 hm
    by_cases hz : e = 0
    · exact ⟨0, by omega, hz, fun i hi => absurd hi (by omega)⟩
    · have q := h e (by omega) e1
      obtain ⟨n, n1, n2, n3⟩ := ih (A e) q.1 (by omega) (by omega)
      refine ⟨n + 1, by omega, by rw [pth_sh]; exact n2, fun i hi => ?_⟩
      cases i with
      | zero => show 0 < e; omega
      | succ i => rw [pth_sh]; exact n3 i (by omega)
theorem pth_un {A : Int → Int} {e : Int} {n m : Nat} (h : pthOk A e n) (g : pthOk A e m) : n = m := by
  rcases Nat.lt_trichotomy n m with q | q | q
  · have := g.2 n q; have := h.1; omega
  · exact q
  · have := h.2 m q; have := g.1; omega
theorem pth_lt {A : Int → Int} {M e : Int} {n : Nat} (h : ∀ j, 0 < j → j < M → 0 ≤ A j ∧ A j < j) (e0 : 0 ≤ e) (e1 : e < M) (g : pthOk A e n) (i : Nat) (hi : i ≤ n) : 0 ≤ pth A e i ∧ pth A e i < M := by
  induction i with
  | zero => exact ⟨e0, e1⟩
  | succ i ih =>
    have i1 := ih (by omega)
    have i2 := g.2 i (by omega)
    have q := h _ i2 i1.2
    show 0 ≤ A (pth A e i) ∧ A (pth A e i) < M
    omega
/-! the class' side -/
theorem row80 : isRow 80 81 := ⟨rfl, rfl, by decide⟩
theorem row82 : isRow 82 81 := ⟨rfl, rfl, by decide⟩
theorem row84 : isRow 84 81 := ⟨rfl, rfl, by decide⟩
theorem row86 : isRow 86 81 := ⟨rfl, rfl, by decide⟩
theorem row88 : isRow 88 81 := ⟨rfl, rfl, by decide⟩
def KFr (s u : St) : Prop := (∀ a z, a < 79 ∨ 90 ≤ a → vA u a z = vA s a z) ∧ (∀ a k, a < 80 ∨ 90 ≤ a → vF u a k = vF s a k)
def KB (s u : St) (B : BS) : Prop := KFr s u ∧ vF u 80 1 = B.1 ∧ vF u 82 1 = B.1 ∧ vF u 84 1 = B.1 ∧ vF u 86 1 = 81 ∧ vF u 88 1 = 0 ∧ (∀ j, 0 ≤ j → j < B.1 → vA u 81 j = B.2.1 j ∧ vA u 83 j = B.2.2.1 j ∧ vA u 85 j = B.2.2.2.1 j) ∧ (∀ p, 0 ≤ p → p < 81 → vA u 87 p = B.2.2.2.2 p)
theorem KFr.tale {s u : St} (h : KFr s u) (hT : TaleOk s 5) : TaleOk u 5 ∧ (∀ l w, cfI u 5 l w = cfI s 5 l w) := by
  obtain ⟨h1, h2⟩ := h
  have e : ∀ l w, bhI u 5 l w = bhI s 5 l w := fun l w => bhI_cong (h2 _ _ (by omega)) (fun z => h1 _ z (by omega)) l w
  exact ⟨hT.cong (h2 _ _ (by omega)) (h2 _ _ (by omega)) (h2 _ _ (by omega)) (fun z => h1 _ z (by omega)) (fun z => h1 _ z (by omega)), fun l w => by unfold cfI; rw [e]⟩
theorem reach_leaf {s u : St} {B : BS} (o : KB s u B) {f g a w : Int} (f0 : 0 ≤ f) (f1 : f < 9) (g0 : 0 ≤ g) (g1 : g < 9) (M0 : 0 ≤ B.1) (hM2 : B.1 < 81) (hq : B.2.2.2.2 (f * 9 + g) = 0) : KB s (sF (sA (sF (sA (sF (sA (sA u 87 (f * 9 + g) 1) 81 (vF u 80 1) (f * 9 + g)) 80 1 (vF u 80 1 + 1)) 83 (vF u 82 1) a) 82 1 (vF u 82 1 + 1)) 85 (vF u 84 1) w) 84 1 (vF u 84 1 + 1)) (reB B (f * 9 + g) a w) := by
  obtain ⟨⟨k1, k2⟩, k3, k4, k5, k6, k7, k8, k9⟩ := id o
  rw [k3, k4, k5]
  unfold reB
  rw [if_pos (by omega)]
  refine ⟨⟨fun i z hi => ?_, fun i k hi => ?_⟩, rfl, rfl, rfl, k6, k7, fun j j0 j1 => ?_, fun p p0 p1 => ?_⟩
  · simp only [vA_sF, vA_sA]
    rw [if_neg (by omega), if_neg (by omega), if_neg (by omega), if_neg (by omega)]
    exact k1 i z hi
  · simp only [vF_sF, vF_sA]
    rw [if_neg (by omega), if_neg (by omega), if_neg (by omega)]
    exact k2 i k hi
  · have j1 : j < B.1 + 1 := j1
    show vA _ 81 j = up1 B.2.1 B.1 (f * 9 + g) j ∧ vA _ 83 j = up1 B.2.2.1 B.1 a j ∧ vA _ 85 j = up1 B.2.2.2.1 B.1 w j
    rw [up1_at, up1_at, up1_at]
    simp only [vA_sF, vA_sA]
    by_cases ej : j = B.1
    · refine ⟨?_, ?_, ?_⟩ <;> simp [ej]
    · have q := k8 j j0 (by omega)
      simp only [if_neg ej]
      rw [if_neg (by omega), if_neg (by omega), if_neg (by omega), if_neg (by omega), if_neg (by omega), if_neg (by omega), if_neg (by omega), if_neg (by omega), if_neg (by omega), if_neg (by omega)]
      exact q
  · show vA _ 87 p = up1 B.2.2.2.2 (f * 9 + g) 1 p
    rw [up1_at]
    simp only [vA_sF, vA_sA]
    rw [if_neg (by omega), if_neg (by omega), if_neg (by omega)]
    by_cases ep : p = f * 9 + g
    · simp [ep]
    · rw [if_neg (fun q => ep q.2), if_neg ep]; exact k9 p p0 p1
set_option maxHeartbeats 4000000 in
set_option maxRecDepth 4000 in
theorem c_reach {X : vX} {s : St} {u : St} {B : BS} (o : KB s u B) {f g a w : Int} (f0 : 0 ≤ f) (f1 : f < 9) (g0 : 0 ≤ g) (g1 : g < 9) (M0 : 0 ≤ B.1) (hM : B.2.2.2.2 (f * 9 + g) = 0 → B.1 < 81) (hF : B.2.2.2.2 (f * 9 + g) = 0 ∨ B.2.2.2.2 (f * 9 + g) = 1) : OkV X 1 41 [.ref 79, .int (iI f), .int (iI g), .int (iI a), .int (iI w)] u (fun t => KB s t (reB B (f * 9 + g) a w)) := by
  refine Ok.of (r := vm_m41) (ls := [some (.ref 79), some (.int (iI f)), some (.int (iI g)), some (.int (iI a)), some (.int (iI w)), none]) rfl (Nat.le_of_ble_eq_true rfl) rfl (fun d hd => ?_)
  obtain ⟨⟨k1, k2⟩, k3, k4, k5, k6, k7, k8, k9⟩ := id o
  have e9 := k9 (f * 9 + g) (by omega) (by omega)
  refine Gs_iload_n p41_0 rfl rfl ?_
  refine Gs_bipush p41_1 (by decide) ?_
  refine Gs_imul p41_3 ?_
  refine Gs_iload_n p41_4 rfl rfl ?_
  refine Gs_iadd p41_5 ?_
  refine Gs_ist5 p41_6 (by first | rfl | assumption) ?_
  refine Gs_aload_n p41_8 rfl rfl ?_
  refine Gs_getR p41_9 (by first | rfl | assumption | exact (show isTale _ from by assumption).1 | exact (show isCamp _ _ from by assumption).1 | exact (show isRow _ _ from by assumption).1) (by rfl) ?_
  refine Gs_iload p41_12 rfl rfl ?_
  refine Gs_callV1I p41_14 (by rfl) (by rfl) (by rfl) (Nat.le_of_ble_eq_true rfl) (by decide) (c_agot (a := 87) row86 rfl ⟨by omega, by omega⟩ (by omega) (by omega) (by omega) (by omega)) (by omega) ?_
  rw [e9]
  refine Gs_if_ne (tgt := 56) p41_17 (by rfl) (by first | assumption | exact ⟨by omega, by omega⟩ | (split <;> exact ⟨by omega, by omega⟩)) (fun h17 => ?_) (fun h17 => ?_)
  · refine Gs_vret p41_56 rfl ⟨rfl, ?_⟩
    first
      | (have hq : ¬ B.2.2.2.2 (f * 9 + g) = 0 := by omega
         unfold reB; rw [if_neg hq]; exact o)
      | exact reach_leaf o f0 f1 g0 g1 M0 (hM (by omega)) (by omega)
  · refine Gs_aload_n p41_20 rfl rfl ?_
    refine Gs_getR p41_21 (by first | rfl | assumption | exact (show isTale _ from by assumption).1 | exact (show isCamp _ _ from by assumption).1 | exact (show isRow _ _ from by assumption).1) (by rfl) ?_
    refine Gs_iload p41_24 rfl rfl ?_
    refine Gs_iconst p41_26 ?_
    refine Gs_callV2W p41_27 (by rfl) (by rfl) (by rfl) (Nat.le_of_ble_eq_true rfl) (by decide) (c_aset (a := 87) row86 rfl ⟨by omega, by omega⟩ (by omega) (by omega) (by omega) (by omega)) (by omega) ?_
    refine Gs_aload_n p41_30 rfl rfl ?_
    refine Gs_getR p41_31 (by first | rfl | assumption | exact (show isTale _ from by assumption).1 | exact (show isCamp _ _ from by assumption).1 | exact (show isRow _ _ from by assumption).1) (by rfl) ?_
    refine Gs_iload p41_34 rfl rfl ?_
    refine Gs_callV1W p41_36 (by rfl) (by rfl) (by rfl) (Nat.le_of_ble_eq_true rfl) (by decide) (c_aadd (a := 81) row80 rfl (show 0 ≤ vF u 80 1 by omega) (show vF u 80 1 < ((81 : Nat) : Int) by omega)) (by omega) ?_
    refine Gs_aload_n p41_39 rfl rfl ?_
    refine Gs_getR p41_40 (by first | rfl | assumption | exact (show isTale _ from by assumption).1 | exact (show isCamp _ _ from by assumption).1 | exact (show isRow _ _ from by assumption).1) (by rfl) ?_
    refine Gs_iload_n p41_43 rfl rfl ?_
    refine Gs_callV1W p41_44 (by rfl) (by rfl) (by rfl) (Nat.le_of_ble_eq_true rfl) (by decide) (c_aadd (a := 83) row82 rfl (show 0 ≤ vF u 82 1 by omega) (show vF u 82 1 < ((81 : Nat) : Int) by omega)) (by omega) ?_
    refine Gs_aload_n p41_47 rfl rfl ?_
    refine Gs_getR p41_48 (by first | rfl | assumption | exact (show isTale _ from by assumption).1 | exact (show isCamp _ _ from by assumption).1 | exact (show isRow _ _ from by assumption).1) (by rfl) ?_
    refine Gs_iload p41_51 rfl rfl ?_
    refine Gs_callV1W p41_53 (by rfl) (by rfl) (by rfl) (Nat.le_of_ble_eq_true rfl) (by decide) (c_aadd (a := 85) row84 rfl (show 0 ≤ vF u 84 1 by omega) (show vF u 84 1 < ((81 : Nat) : Int) by omega)) (by omega) ?_
    refine Gs_vret p41_56 rfl ⟨rfl, ?_⟩
    first
      | (have hq : ¬ B.2.2.2.2 (f * 9 + g) = 0 := by omega
         unfold reB; rw [if_neg hq]; exact o)
      | exact reach_leaf o f0 f1 g0 g1 M0 (hM (by omega)) (by omega)
