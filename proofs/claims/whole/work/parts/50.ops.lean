/-! the values of an operation; lit, handed, joined, an hour -/
/-- the class' table is V then, the hours hr, all else as it was -/
def COp (s t : St) (c : Nat) (n : Int) (V : Int → Int → Int) (hr : Int) : Prop := cv t c n = V ∧ (∀ i z, i ≠ c + 2 → vA t i z = vA s i z) ∧ (∀ i k, ¬ (i = c ∧ k = 2) → vF t i k = vF s i k) ∧ vF t c 2 = hr ∧ CampOk t c n
def MOpH (s t : St) (a : Nat) (n : Int) (V : Int → Int → Int) (hr : Int) : Prop := mv t a 0 n = V ∧ (∀ i z, i ≠ a → vA t i z = vA s i z) ∧ (∀ i k, vF t i k = vF s i k) ∧ vA t a 32 = hr ∧ Unu s t a n
theorem MOp.h {s t : St} {a : Nat} {n : Int} {V : Int → Int → Int} (h : MOp s t a n V) : MOpH s t a n V (vA s a 32) := ⟨h.1, h.2.1, h.2.2.1, h.2.2.2.1 _ (by omega), h.2.2.2.2⟩
theorem MOp.hour {s t : St} {a : Nat} {n : Int} {V : Int → Int → Int} {x : Int} (h : MOp s t a n V) (h00 : 0 ≤ n) (h0 : n ≤ 4) : MOpH s (sA t a 32 x) a n V x := by
  obtain ⟨h1, h2, h3, h4, h5⟩ := h
  have E : ∀ z, z < 32 → vA (sA t a 32 x) a z = vA t a z := fun z hz => by rw [vA_sA, if_neg (by omega)]
  refine ⟨?_, fun i z e => by rw [vA_sA, if_neg (fun q => e q.1)]; exact h2 i z e, h3, by rw [vA_sA, if_pos ⟨rfl, rfl⟩], fun k w g0 g1 g2 g3 => ?_⟩
  · rw [← h1]
    funext k w
    unfold mv
    split
    · rename_i r
      exact E _ (by have := mi_b r.1.1 (show k < 4 by omega) r.2.1 r.2.2; omega)
    · rfl
  · rw [E _ (by have := mi_b (show 0 ≤ k by omega) g1 g2 g3; omega)]
    exact h5 k w g0 g1 g2 g3
def kinV (V : Int → Int → Int) (a b : Int) : Int → Int → Int := upV (upV (upV (upV V b 0 (V b 0 - 1)) a 0 3) a 1 (V b 1)) a 6 (-4)
def movV (V : Int → Int → Int) (a b w : Int) : Int → Int → Int := upV (upV V a (2 + w) (V a (2 + w) - 1)) b (2 + w) (V b (2 + w) + 1)
def mer1 (V : Int → Int → Int) (a b : Int) : Int → Int → Int := upV (upV V a 0 (mn 20 (V a 0 + V b 0))) a 1 (mn (V a 1) (V b 1))
/-- the logs of the first i woods joined -/
def merL (V : Int → Int → Int) (a b i : Int) : Int → Int → Int := fun k w => if (k = a ∨ k = b) ∧ 2 ≤ w ∧ w < 2 + i then (if k = a then mn 99 (V a w + V b w) else 0) else V k w
def burnV (V : Int → Int → Int) (r i : Int) : Int → Int → Int := fun k w => if (0 ≤ k ∧ k < i) ∧ 1 ≤ V k 0 then (if w = 0 then burntI (V k 0) (V k 6) r else if (w = 1 ∨ w = 6) ∧ burntI (V k 0) (V k 6) r < 1 then -4 else V k w) else V k w
theorem burnV_0 (V : Int → Int → Int) (r : Int) : burnV V r 0 = V := by
  funext k w
  unfold burnV
  rw [if_neg (by omega)]
theorem burnV_in {V : Int → Int → Int} {r i : Int} (h0 : 0 ≤ i) (h1 : 1 ≤ V i 0) : hotV (burnV V r i) i (burntI (V i 0) (V i 6) r) = burnV V r (i + 1) := by
  funext k w
  by_cases e : k = i
  · subst e
    unfold burnV
    rw [if_pos (show (0 ≤ k ∧ k < k + 1) ∧ 1 ≤ V k 0 from ⟨⟨h0, by omega⟩, h1⟩)]
    unfold hotV
    by_cases hb : 1 ≤ burntI (V k 0) (V k 6) r
    · rw [if_pos hb, upV_at]
      by_cases w0 : w = 0
      · rw [if_pos ⟨rfl, w0⟩, if_pos w0]
      · rw [if_neg (fun q => w0 q.2), if_neg w0, if_neg (by omega), if_neg (by omega)]
    · rw [if_neg hb, upV_at, upV_at, upV_at]
      by_cases w6 : w = 6
      · rw [if_pos ⟨rfl, w6⟩, if_neg (by omega), if_pos ⟨Or.inr w6, by omega⟩]
      · rw [if_neg (fun q => w6 q.2)]
        by_cases w1 : w = 1
        · rw [if_pos ⟨rfl, w1⟩, if_neg (by omega), if_pos ⟨Or.inl w1, by omega⟩]
        · rw [if_neg (fun q => w1 q.2)]
          by_cases w0 : w = 0
          · rw [if_pos ⟨rfl, w0⟩, if_pos w0]
          · rw [if_neg (fun q => w0 q.2), if_neg w0, if_neg (by omega), if_neg (by omega)]
  · rw [hotV_o _ _ _ _ _ (fun q => e q.1)]
    unfold burnV
    by_cases c : (0 ≤ k ∧ k < i) ∧ 1 ≤ V k 0
    · rw [if_pos c, if_pos (show (0 ≤ k ∧ k < i + 1) ∧ 1 ≤ V k 0 from ⟨⟨c.1.1, by omega⟩, c.2⟩)]
    · rw [if_neg c, if_neg (fun q => c ⟨⟨q.1.1, by omega⟩, q.2⟩)]
theorem burnV_out {V : Int → Int → Int} {r i : Int} (h1 : ¬ 1 ≤ V i 0) : burnV V r i = burnV V r (i + 1) := by
  funext k w
  unfold burnV
  by_cases c : (0 ≤ k ∧ k < i) ∧ 1 ≤ V k 0
  · rw [if_pos c, if_pos (show (0 ≤ k ∧ k < i + 1) ∧ 1 ≤ V k 0 from ⟨⟨c.1.1, by omega⟩, c.2⟩)]
  · rw [if_neg c]
    by_cases e : k = i
    · subst e; rw [if_neg (fun q => h1 q.2)]
    · rw [if_neg (fun q => c ⟨⟨q.1.1, by omega⟩, q.2⟩)]
theorem burnV_at {V : Int → Int → Int} {r i k w : Int} (h : i ≤ k) : burnV V r i k w = V k w := by unfold burnV; rw [if_neg (by omega)]
theorem COp.put {s t : St} {c : Nat} {n : Int} {V : Int → Int → Int} {hr k w v : Int} (h : COp s t c n V hr) (b0 : 0 ≤ k) (b1 : k < n) (b2 : 0 ≤ w) (b3 : w < 8) (hv : loW w ≤ v ∧ v ≤ hiW w) : COp s (cs t c k w v) c n (upV V k w v) hr := by
  obtain ⟨h1, h2, h3, h4, h5⟩ := h
  exact ⟨by rw [cv_cs b0 b1 b2 b3, h1], fun i z e => by show vA (sA _ _ _ _) _ _ = _; rw [vA_sA, if_neg (fun q => e q.1)]; exact h2 i z e, h3, h4, h5.cs b0 b1 b2 b3 hv⟩
theorem COp.refl {s : St} {c : Nat} {n : Int} (h : CampOk s c n) : COp s s c n (cv s c n) (vF s c 2) := ⟨rfl, fun _ _ _ => rfl, fun _ _ _ => rfl, rfl, h⟩
theorem COp.eq {s t : St} {c : Nat} {n hr : Int} {V W : Int → Int → Int} (h : COp s t c n V hr) (e : V = W) : COp s t c n W hr := e ▸ h
theorem COp.trans {s t u : St} {c : Nat} {n hr hr' : Int} {V W : Int → Int → Int} (h : COp s t c n V hr) (g : COp t u c n W hr') : COp s u c n W hr' :=
  ⟨g.1, fun i z e => (g.2.1 i z e).trans (h.2.1 i z e), fun i k e => (g.2.2.1 i k e).trans (h.2.2.1 i k e), g.2.2.2.1, g.2.2.2.2⟩
theorem COp.at {s t : St} {c : Nat} {n hr : Int} {V : Int → Int → Int} (h : COp s t c n V hr) {k w : Int} (b0 : 0 ≤ k) (b1 : k < n) (b2 : 0 ≤ w) (b3 : w < 8) : cg t c k w = V k w := by rw [← h.1, cv_at b0 b1 b2 b3]
theorem COp.hot {s t : St} {c : Nat} {n hr : Int} {V : Int → Int → Int} {k h : Int} (o : COp s t c n V hr) (b0 : 0 ≤ k) (b1 : k < n) (g0 : 0 ≤ h) (g1 : h ≤ 20) : COp s (hotS t c k h) c n (hotV V k h) hr := by
  obtain ⟨h1, h2, h3, h4, h5⟩ := o
  exact ⟨by rw [cv_hot b0 b1, h1], fun i z e => by rw [hot_A e]; exact h2 i z e, fun i j e => by rw [hot_F]; exact h3 i j e, by rw [hot_F]; exact h4, h5.hot b0 b1 g0 g1⟩
theorem COp.feed {s t : St} {c u : Nat} {n hr : Int} {V : Int → Int → Int} {k w : Int} (o : COp s t c n V hr) (hT : TaleOk t u) (hcu : c + 2 ≠ u + 2) (hcv : c + 2 ≠ u + 4) (b0 : 0 ≤ k) (b1 : k < n) (h2 : 0 ≤ w) (h3 : w < 4) (hl : 1 ≤ V k (2 + w)) (hto : V k 7 < 100000) : COp s (feedS t c u k w) c n (feedV V (bhI t u (V k 1) w) k w) hr := by
  have e := cv_feed (s := t) (t := u) b0 b1 h2 h3 hcu
  obtain ⟨o1, o2, o3, o4, hk⟩ := o
  rw [o1] at e
  refine ⟨e, fun i z e => by rw [feed_A e]; exact o2 i z e, fun i j e => by rw [feed_F]; exact o3 i j e, by rw [feed_F]; exact o4, ?_⟩
  have hl' : 1 ≤ cg t c k (2 + w) := by rw [← cv_at (n := n) b0 b1 (by omega) (by omega), o1]; exact hl
  have c7 : cg t c k 7 = V k 7 := by rw [← cv_at (n := n) b0 b1 (by omega) (by omega), o1]
  have bl := hk.b b0 b1 (w := 2 + w) (by omega) (by omega)
  have b7 := hk.b b0 b1 (w := 7) (by omega) (by omega)
  have q1 : CampOk (cs t c k (2 + w) (cg t c k (2 + w) + -1)) c n := hk.cs b0 b1 (by omega) (by omega) ⟨by unfold loW; split <;> (try split) <;> omega, by omega⟩
  have t1 : TaleOk (cs t c k (2 + w) (cg t c k (2 + w) + -1)) u := hT.sA hcu hcv
  have hf := fedI_b (cg (cs t c k (2 + w) (cg t c k (2 + w) + -1)) c k 0) w
  have q2 : CampOk (feed1 t c k w) c n := q1.hot b0 b1 hf.1 hf.2
  have t2 : TaleOk (feed1 t c k w) u := t1.hot hcu hcv
  have q3 : CampOk (feed2 t c k w) c n := q2.cs b0 b1 (by omega) (by omega) ⟨by show -4 ≤ w; omega, by show w ≤ 3; omega⟩
  have t3 : TaleOk (feed2 t c k w) u := t2.sA hcu hcv
  unfold feedS
  split
  · split
    · exact q3
    · rename_i hn
      have q4 : CampOk (feed3 t c u k w) c n := q3.cs b0 b1 (by omega) (by omega) (feed_line t3 rfl hn)
      have d7 : cg (feed3 t c u k w) c k 7 = cg t c k 7 := by
        unfold feed3 feed2 feed1
        rw [cg_cs (by omega) (by omega) (by omega) (by omega), if_neg (by omega), cg_cs (by omega) (by omega) (by omega) (by omega), if_neg (by omega), ← cv_at (n := n) b0 b1 (by omega) (by omega), cv_hot b0 b1, hotV_o _ _ _ _ _ (by omega), cv_at b0 b1 (by omega) (by omega), cg_cs (by omega) (by omega) (by omega) (by omega), if_neg (by omega)]
      refine q4.cs b0 b1 (by omega) (by omega) ⟨?_, ?_⟩
      · have : loW 7 = 0 := by decide
        rw [d7]; omega
      · have : hiW 7 = 100000 := by decide
        rw [d7]; omega
  · exact q2
set_option maxHeartbeats 1000000 in
set_option maxRecDepth 4000 in
theorem c_canKindle {X : vX} {s : St} {c t : Nat} {n : Int} (hc : isCamp c t) (hk : CampOk s c n) {a b : Int} (a0 : 0 ≤ a) (a1 : a < n) (b0 : 0 ≤ b) (b1 : b < n) : OkI X 3 15 [.ref c, .int (iI a), .int (iI b)] s (Is1 (if ¬ 1 ≤ cg s c a 0 ∧ 4 ≤ cg s c b 0 then 1 else 0) s) := by
  refine Ok.of (r := vm_m15) (ls := [some (.ref c), some (.int (iI a)), some (.int (iI b))]) rfl (Nat.le_of_ble_eq_true rfl) rfl (fun d hd => ?_)
  obtain ⟨hy, hr⟩ := id hc
  obtain ⟨k1, k2, k3, k4, k5, k6⟩ := id hk
  have q := hk.r b0 b1 (w := 0) (by omega) (by omega)
  refine Gs_aload_n p15_0 rfl rfl ?_
  refine Gs_iload_n p15_1 rfl rfl ?_
  refine Gs_callV1I p15_2 (by rfl) (by rfl) (by first | rfl | assumption | exact (show isTale _ from by assumption).1 | exact (show isCamp _ _ from by assumption).1 | exact (show isRow _ _ from by assumption).1) (Nat.le_of_ble_eq_true rfl) (by decide) (c_isIn hc hk a0 a1) (by omega) ?_
  refine Gs_ifb_ne (tgt := 22) p15_5 (by rfl) (fun h5 => ?_) (fun h5 => ?_)
  · refine Gs_iconst p15_22 ?_
    refine Gs_zret p15_23 rfl (by first | exact Or.inl rfl | exact Or.inr rfl | (split <;> first | exact Or.inl rfl | exact Or.inr rfl)) ⟨_, rfl, ?_⟩
    refine ⟨?_, rfl⟩
    (repeat' split) <;> omega
  · refine Gs_aload_n p15_8 rfl rfl ?_
    refine Gs_iload_n p15_9 rfl rfl ?_
    refine Gs_iconst p15_10 ?_
    refine Gs_callV2I p15_11 (by rfl) (by rfl) (by first | rfl | assumption | exact (show isTale _ from by assumption).1 | exact (show isCamp _ _ from by assumption).1 | exact (show isRow _ _ from by assumption).1) (Nat.le_of_ble_eq_true rfl) (by decide) (c_Cget hc hk b0 b1 (by omega) (by omega)) (by omega) ?_
    refine Gs_iconst p15_14 ?_
    refine Gs_icmp_lt (tgt := 22) p15_15 (by rfl) (by first | assumption | exact ⟨by omega, by omega⟩ | (split <;> exact ⟨by omega, by omega⟩)) (by first | assumption | exact ⟨by omega, by omega⟩ | (split <;> exact ⟨by omega, by omega⟩)) (fun h15 => ?_) (fun h15 => ?_)
    · refine Gs_iconst p15_22 ?_
      refine Gs_zret p15_23 rfl (by first | exact Or.inl rfl | exact Or.inr rfl | (split <;> first | exact Or.inl rfl | exact Or.inr rfl)) ⟨_, rfl, ?_⟩
      refine ⟨?_, rfl⟩
      (repeat' split) <;> omega
    · refine Gs_iconst p15_18 ?_
      refine Gs_goto (tgt := 23) p15_19 (by rfl) ?_
      refine Gs_zret p15_23 rfl (by first | exact Or.inl rfl | exact Or.inr rfl | (split <;> first | exact Or.inl rfl | exact Or.inr rfl)) ⟨_, rfl, ?_⟩
      refine ⟨?_, rfl⟩
      (repeat' split) <;> omega

set_option maxHeartbeats 1000000 in
set_option maxRecDepth 4000 in
theorem c_kindle {X : vX} {s : St} {c t : Nat} {n : Int} (hc : isCamp c t) (hk : CampOk s c n) {a b : Int} (a0 : 0 ≤ a) (a1 : a < n) (b0 : 0 ≤ b) (b1 : b < n) (hh : 1 ≤ cg s c b 0) : OkV X 3 16 [.ref c, .int (iI a), .int (iI b)] s (fun t => COp s t c n (kinV (cv s c n) a b) (vF s c 2)) := by
  refine Ok.of (r := vm_m16) (ls := [some (.ref c), some (.int (iI a)), some (.int (iI b))]) rfl (Nat.le_of_ble_eq_true rfl) rfl (fun d hd => ?_)
  obtain ⟨hy, hr⟩ := id hc
  obtain ⟨k1, k2, k3, k4, k5, k6⟩ := id hk
  have q := hk.b b0 b1 (w := 0) (by omega) (by omega)
  have o1 := (COp.refl hk).put b0 b1 (w := 0) (v := cg s c b 0 + -1) (by omega) (by omega) ⟨by have : loW 0 = 0 := rfl; omega, by omega⟩
  have o2 := o1.put a0 a1 (w := 0) (v := 3) (by omega) (by omega) (by decide)
  have r1 : cg (cs (cs s c b 0 (cg s c b 0 + -1)) c a 0 3) c b 1 = cg s c b 1 := by rw [cg_cs (by omega) (by omega) (by omega) (by omega), if_neg (by omega), cg_cs (by omega) (by omega) (by omega) (by omega), if_neg (by omega)]
  have o3 := o2.put a0 a1 (w := 1) (v := cg s c b 1) (by omega) (by omega) (hk.b b0 b1 (by omega) (by omega))
  have o4 := o3.put a0 a1 (w := 6) (v := -4) (by omega) (by omega) (by decide)
  refine Gs_aload_n p16_0 rfl rfl ?_
  refine Gs_iload_n p16_1 rfl rfl ?_
  refine Gs_iconst p16_2 ?_
  refine Gs_iconst p16_3 ?_
  refine Gs_callV3W p16_4 (by rfl) (by rfl) (by first | rfl | assumption | exact (show isTale _ from by assumption).1 | exact (show isCamp _ _ from by assumption).1 | exact (show isRow _ _ from by assumption).1) (Nat.le_of_ble_eq_true rfl) (by decide) (c_Cchange hc hk b0 b1 (by omega) (by omega)) (by omega) ?_
  refine Gs_aload_n p16_7 rfl rfl ?_
  refine Gs_iload_n p16_8 rfl rfl ?_
  refine Gs_iconst p16_9 ?_
  refine Gs_iconst p16_10 ?_
  refine Gs_callV3W p16_11 (by rfl) (by rfl) (by first | rfl | assumption | exact (show isTale _ from by assumption).1 | exact (show isCamp _ _ from by assumption).1 | exact (show isRow _ _ from by assumption).1) (Nat.le_of_ble_eq_true rfl) (by decide) (c_Cset hc o1.2.2.2.2 a0 a1 (by omega) (by omega)) (by omega) ?_
  refine Gs_aload_n p16_14 rfl rfl ?_
  refine Gs_iload_n p16_15 rfl rfl ?_
  refine Gs_iconst p16_16 ?_
  refine Gs_aload_n p16_17 rfl rfl ?_
  refine Gs_iload_n p16_18 rfl rfl ?_
  refine Gs_iconst p16_19 ?_
  refine Gs_callV2I p16_20 (by rfl) (by rfl) (by first | rfl | assumption | exact (show isTale _ from by assumption).1 | exact (show isCamp _ _ from by assumption).1 | exact (show isRow _ _ from by assumption).1) (Nat.le_of_ble_eq_true rfl) (by decide) (c_Cget hc o2.2.2.2.2 b0 b1 (by omega) (by omega)) (by omega) ?_
  rw [r1]
  refine Gs_callV3W p16_23 (by rfl) (by rfl) (by first | rfl | assumption | exact (show isTale _ from by assumption).1 | exact (show isCamp _ _ from by assumption).1 | exact (show isRow _ _ from by assumption).1) (Nat.le_of_ble_eq_true rfl) (by decide) (c_Cset hc o2.2.2.2.2 a0 a1 (by omega) (by omega)) (by omega) ?_
  refine Gs_aload_n p16_26 rfl rfl ?_
  refine Gs_iload_n p16_27 rfl rfl ?_
  refine Gs_bipush p16_28 (by decide) ?_
  refine Gs_bipush p16_30 (by decide) ?_
  refine Gs_callV3W p16_32 (by rfl) (by rfl) (by first | rfl | assumption | exact (show isTale _ from by assumption).1 | exact (show isCamp _ _ from by assumption).1 | exact (show isRow _ _ from by assumption).1) (Nat.le_of_ble_eq_true rfl) (by decide) (c_Cset hc o3.2.2.2.2 a0 a1 (by omega) (by omega)) (by omega) ?_
  refine Gs_vret p16_35 rfl ⟨rfl, ?_⟩
  refine o4.eq ?_
  unfold kinV
  rw [cv_at b0 b1 (by omega) (by omega), cv_at b0 b1 (by omega) (by omega)]
  rfl

set_option maxHeartbeats 1000000 in
set_option maxRecDepth 4000 in
theorem c_canMove {X : vX} {s : St} {c t : Nat} {n : Int} (hc : isCamp c t) (hk : CampOk s c n) {a b : Int} (a0 : 0 ≤ a) (a1 : a < n) (b0 : 0 ≤ b) (b1 : b < n) {w : Int} (h2 : 0 ≤ w) (h3 : w < 4) : OkI X 3 18 [.ref c, .int (iI a), .int (iI b), .int (iI w)] s (Is1 (if 1 ≤ cg s c a (2 + w) ∧ cg s c b (2 + w) < 99 then 1 else 0) s) := by
  refine Ok.of (r := vm_m18) (ls := [some (.ref c), some (.int (iI a)), some (.int (iI b)), some (.int (iI w))]) rfl (Nat.le_of_ble_eq_true rfl) rfl (fun d hd => ?_)
  obtain ⟨hy, hr⟩ := id hc
  obtain ⟨k1, k2, k3, k4, k5, k6⟩ := id hk
  have q := hk.r b0 b1 (w := 2 + w) (by omega) (by omega)
  have q2 := hk.r a0 a1 (w := 2 + w) (by omega) (by omega)
  refine Gs_aload_n p18_0 rfl rfl ?_
  refine Gs_iload_n p18_1 rfl rfl ?_
  refine Gs_iconst p18_2 ?_
  refine Gs_iload_n p18_3 rfl rfl ?_
  refine Gs_iadd p18_4 ?_
  refine Gs_callV2I p18_5 (by rfl) (by rfl) (by first | rfl | assumption | exact (show isTale _ from by assumption).1 | exact (show isCamp _ _ from by assumption).1 | exact (show isRow _ _ from by assumption).1) (Nat.le_of_ble_eq_true rfl) (by decide) (c_Cget hc hk a0 a1 (by omega) (by omega)) (by omega) ?_
  refine Gs_iconst p18_8 ?_
  refine Gs_icmp_lt (tgt := 29) p18_9 (by rfl) (by first | assumption | exact ⟨by omega, by omega⟩ | (split <;> exact ⟨by omega, by omega⟩)) (by first | assumption | exact ⟨by omega, by omega⟩ | (split <;> exact ⟨by omega, by omega⟩)) (fun h9 => ?_) (fun h9 => ?_)
  · refine Gs_iconst p18_29 ?_
    refine Gs_zret p18_30 rfl (by first | exact Or.inl rfl | exact Or.inr rfl | (split <;> first | exact Or.inl rfl | exact Or.inr rfl)) ⟨_, rfl, ?_⟩
    refine ⟨?_, rfl⟩
    (repeat' split) <;> omega
  · refine Gs_aload_n p18_12 rfl rfl ?_
    refine Gs_iload_n p18_13 rfl rfl ?_
    refine Gs_iconst p18_14 ?_
    refine Gs_iload_n p18_15 rfl rfl ?_
    refine Gs_iadd p18_16 ?_
    refine Gs_callV2I p18_17 (by rfl) (by rfl) (by first | rfl | assumption | exact (show isTale _ from by assumption).1 | exact (show isCamp _ _ from by assumption).1 | exact (show isRow _ _ from by assumption).1) (Nat.le_of_ble_eq_true rfl) (by decide) (c_Cget hc hk b0 b1 (by omega) (by omega)) (by omega) ?_
    refine Gs_bipush p18_20 (by decide) ?_
    refine Gs_icmp_ge (tgt := 29) p18_22 (by rfl) (by first | assumption | exact ⟨by omega, by omega⟩ | (split <;> exact ⟨by omega, by omega⟩)) (by first | assumption | exact ⟨by omega, by omega⟩ | (split <;> exact ⟨by omega, by omega⟩)) (fun h22 => ?_) (fun h22 => ?_)
    · refine Gs_iconst p18_29 ?_
      refine Gs_zret p18_30 rfl (by first | exact Or.inl rfl | exact Or.inr rfl | (split <;> first | exact Or.inl rfl | exact Or.inr rfl)) ⟨_, rfl, ?_⟩
      refine ⟨?_, rfl⟩
      (repeat' split) <;> omega
    · refine Gs_iconst p18_25 ?_
      refine Gs_goto (tgt := 30) p18_26 (by rfl) ?_
      refine Gs_zret p18_30 rfl (by first | exact Or.inl rfl | exact Or.inr rfl | (split <;> first | exact Or.inl rfl | exact Or.inr rfl)) ⟨_, rfl, ?_⟩
      refine ⟨?_, rfl⟩
      (repeat' split) <;> omega

set_option maxHeartbeats 1000000 in
set_option maxRecDepth 4000 in
theorem c_move {X : vX} {s : St} {c t : Nat} {n : Int} (hc : isCamp c t) (hk : CampOk s c n) {a b : Int} (a0 : 0 ≤ a) (a1 : a < n) (b0 : 0 ≤ b) (b1 : b < n) {w : Int} (h2 : 0 ≤ w) (h3 : w < 4) (hab : a ≠ b) (g1 : 1 ≤ cg s c a (2 + w)) (g2 : cg s c b (2 + w) < 99) : OkV X 3 19 [.ref c, .int (iI a), .int (iI b), .int (iI w)] s (fun t => COp s t c n (movV (cv s c n) a b w) (vF s c 2)) := by
  refine Ok.of (r := vm_m19) (ls := [some (.ref c), some (.int (iI a)), some (.int (iI b)), some (.int (iI w))]) rfl (Nat.le_of_ble_eq_true rfl) rfl (fun d hd => ?_)
  obtain ⟨hy, hr⟩ := id hc
  obtain ⟨k1, k2, k3, k4, k5, k6⟩ := id hk
  have q := hk.b b0 b1 (w := 2 + w) (by omega) (by omega)
  have qa := hk.b a0 a1 (w := 2 + w) (by omega) (by omega)
  have lw : loW (2 + w) = 0 ∧ hiW (2 + w) = 99 := by
    unfold loW hiW
    constructor <;> ((repeat' split) <;> omega)
  have o1 := (COp.refl hk).put a0 a1 (w := 2 + w) (v := cg s c a (2 + w) + -1) (by omega) (by omega) ⟨by omega, by omega⟩
  have r1 : cg (cs s c a (2 + w) (cg s c a (2 + w) + -1)) c b (2 + w) = cg s c b (2 + w) := by rw [cg_cs (by omega) (by omega) (by omega) (by omega), if_neg (by omega)]
  have o2 := o1.put b0 b1 (w := 2 + w) (v := cg s c b (2 + w) + 1) (by omega) (by omega) ⟨by omega, by omega⟩
  refine Gs_aload_n p19_0 rfl rfl ?_
  refine Gs_iload_n p19_1 rfl rfl ?_
  refine Gs_iconst p19_2 ?_
  refine Gs_iload_n p19_3 rfl rfl ?_
  refine Gs_iadd p19_4 ?_
  refine Gs_iconst p19_5 ?_
  refine Gs_callV3W p19_6 (by rfl) (by rfl) (by first | rfl | assumption | exact (show isTale _ from by assumption).1 | exact (show isCamp _ _ from by assumption).1 | exact (show isRow _ _ from by assumption).1) (Nat.le_of_ble_eq_true rfl) (by decide) (c_Cchange hc hk a0 a1 (by omega) (by omega)) (by omega) ?_
  refine Gs_aload_n p19_9 rfl rfl ?_
  refine Gs_iload_n p19_10 rfl rfl ?_
  refine Gs_iconst p19_11 ?_
  refine Gs_iload_n p19_12 rfl rfl ?_
  refine Gs_iadd p19_13 ?_
  refine Gs_iconst p19_14 ?_
  refine Gs_callV3W p19_15 (by rfl) (by rfl) (by first | rfl | assumption | exact (show isTale _ from by assumption).1 | exact (show isCamp _ _ from by assumption).1 | exact (show isRow _ _ from by assumption).1) (Nat.le_of_ble_eq_true rfl) (by decide) (c_Cchange hc o1.2.2.2.2 b0 b1 (by omega) (by omega)) (by omega) ?_
  refine Gs_vret p19_18 rfl ⟨rfl, ?_⟩
  rw [r1]
  refine o2.eq ?_
  unfold movV
  rw [cv_at b0 b1 (by omega) (by omega), cv_at a0 a1 (by omega) (by omega)]
  rfl

set_option maxHeartbeats 1000000 in
set_option maxRecDepth 4000 in
theorem c_burn {X : vX} {s : St} {c t : Nat} {n : Int} (hc : isCamp c t) (hk : CampOk s c n) (ht : isTale t) (hT : TaleOk s t) (hct : c + 2 ≠ t + 2 ∧ c + 2 ≠ t + 4 ∧ c ≠ t + 3 ∧ c ≠ t) (hh : vF s c 2 < 100000) : OkV X 3 14 [.ref c] s (fun u => COp s u c n (burnV (cv s c n) (rnI s t (vF s c 2)) n) (vF s c 2 + 1)) := by
  refine Ok.of (r := vm_m14) (ls := [some (.ref c), none, none]) rfl (Nat.le_of_ble_eq_true rfl) rfl (fun d hd => ?_)
  obtain ⟨hy, hr⟩ := id hc
  obtain ⟨k1, k2, k3, k4, k5, k6⟩ := id hk
  have eT : rnI s t (vF s c 2) = rnI s t (vF s c 2) := rfl
  have br := rnI_b hT (vF s c 2)
  have G0 : ∀ k, 0 ≤ k → k < n → 0 ≤ cv s c n k 0 ∧ cv s c n k 0 ≤ 20 := fun k q0 q1 => by
    rw [cv_at q0 q1 (by omega) (by omega)]
    exact hk.b q0 q1 (w := 0) (by omega) (by omega)
  have G6 : ∀ k, 0 ≤ k → k < n → -4 ≤ cv s c n k 6 ∧ cv s c n k 6 ≤ 100000 := fun k q0 q1 => by
    rw [cv_at q0 q1 (by omega) (by omega)]
    exact hk.r q0 q1 (w := 6) (by omega) (by omega)
  refine Gs_aload_n p14_0 rfl rfl ?_
  refine Gs_getR p14_1 (by first | rfl | assumption | exact (show isTale _ from by assumption).1 | exact (show isCamp _ _ from by assumption).1 | exact (show isRow _ _ from by assumption).1) (by rfl) ?_
  refine Gs_aload_n p14_4 rfl rfl ?_
  refine Gs_getI p14_5 (by first | rfl | assumption | exact (show isTale _ from by assumption).1 | exact (show isCamp _ _ from by assumption).1 | exact (show isRow _ _ from by assumption).1) (by rfl) ?_
  refine Gs_callV1I p14_8 (by rfl) (by rfl) (by first | rfl | assumption | exact (show isTale _ from by assumption).1 | exact (show isCamp _ _ from by assumption).1 | exact (show isRow _ _ from by assumption).1) (Nat.le_of_ble_eq_true rfl) (by decide) (c_rainAt ht hT (by omega) (by omega)) (by omega) ?_
  refine Gs_ist1 p14_11 (by first | rfl | assumption) ?_
  refine Gs_iconst p14_12 ?_
  refine Gs_ist2 p14_13 (by first | rfl | assumption) ?_
  refine dn (n := n) (P := fun i => ∀ u, COp s u c n (burnV (cv s c n) (rnI s t (vF s c 2)) i) (vF s c 2) → Gs X d 14 14 [some (.ref c), some (.int (iI (rnI s t (vF s c 2)))), some (.int (iI i))] [] (u) (fun v y => v = none ∧ (fun u => COp s u c n (burnV (cv s c n) (rnI s t (vF s c 2)) n) (vF s c 2 + 1)) y)) (by omega) (fun i hi hin ih => ?_) ?_ s ((COp.refl hk).eq (burnV_0 _ _).symm)
  · show ∀ u, COp s u c n (burnV (cv s c n) (rnI s t (vF s c 2)) i) (vF s c 2) → Gs X d 14 14 [some (.ref c), some (.int (iI (rnI s t (vF s c 2)))), some (.int (iI i))] [] (u) _
    intro u o
    refine Gs_iload_n p14_14 rfl rfl ?_
    refine Gs_aload_n p14_15 rfl rfl ?_
    refine Gs_callV0I p14_16 (by rfl) (by rfl) (by first | rfl | assumption | exact (show isTale _ from by assumption).1 | exact (show isCamp _ _ from by assumption).1 | exact (show isRow _ _ from by assumption).1) (Nat.le_of_ble_eq_true rfl) (by decide) (c_companies hc o.2.2.2.2) (by omega) ?_
    refine Gs_icmp_ge (tgt := 58) p14_19 (by rfl) (by first | assumption | exact ⟨by omega, by omega⟩ | (split <;> exact ⟨by omega, by omega⟩)) (by first | assumption | exact ⟨by omega, by omega⟩ | (split <;> exact ⟨by omega, by omega⟩)) (fun hc19 => absurd ‹_› (by first | omega | assumption)) (fun hc19 => ?_)
    have e0 := o.at hi hin (w := 0) (by omega) (by omega)
    have e6 := o.at hi hin (w := 6) (by omega) (by omega)
    rw [burnV_at (Int.le_refl i)] at e0 e6
    have g0 := G0 i hi hin
    have g6 := G6 i hi hin
    refine Gs_aload_n p14_22 rfl rfl ?_
    refine Gs_iload_n p14_23 rfl rfl ?_
    refine Gs_callV1I p14_24 (by rfl) (by rfl) (by first | rfl | assumption | exact (show isTale _ from by assumption).1 | exact (show isCamp _ _ from by assumption).1 | exact (show isRow _ _ from by assumption).1) (Nat.le_of_ble_eq_true rfl) (by decide) (c_isIn hc o.2.2.2.2 hi hin) (by omega) ?_
    refine Gs_ifb_eq (tgt := 52) p14_27 (by rfl) (fun h27 => ?_) (fun h27 => ?_)
    · refine Gs_iinc2 (b52 := none) p14_52 (by first | rfl | assumption) ?_
      refine Gs_goto (tgt := 14) p14_55 (by rfl) ?_
      first
        | exact ih _ ((o.hot hi hin bb.1 bb.2).eq (burnV_in hi (by omega)))
        | exact ih _ (o.eq (burnV_out (by rw [← e0]; omega)))
    · rw [e0] at h27
      refine Gs_aload_n p14_30 rfl rfl ?_
      refine Gs_iload_n p14_31 rfl rfl ?_
      refine Gs_aload_n p14_32 rfl rfl ?_
      refine Gs_iload_n p14_33 rfl rfl ?_
      refine Gs_iconst p14_34 ?_
      refine Gs_callV2I p14_35 (by rfl) (by rfl) (by first | rfl | assumption | exact (show isTale _ from by assumption).1 | exact (show isCamp _ _ from by assumption).1 | exact (show isRow _ _ from by assumption).1) (Nat.le_of_ble_eq_true rfl) (by decide) (c_Cget hc o.2.2.2.2 hi hin (by omega) (by omega)) (by omega) ?_
      rw [e0]
      refine Gs_aload_n p14_38 rfl rfl ?_
      refine Gs_iload_n p14_39 rfl rfl ?_
      refine Gs_bipush p14_40 (by decide) ?_
      refine Gs_callV2I p14_42 (by rfl) (by rfl) (by first | rfl | assumption | exact (show isTale _ from by assumption).1 | exact (show isCamp _ _ from by assumption).1 | exact (show isRow _ _ from by assumption).1) (Nat.le_of_ble_eq_true rfl) (by decide) (c_Cget hc o.2.2.2.2 hi hin (by omega) (by omega)) (by omega) ?_
      rw [e6]
      refine Gs_iload_n p14_45 rfl rfl ?_
      refine Gs_callS3I p14_46 (by rfl) (Nat.le_of_ble_eq_true rfl) (by decide) (c_burnt (by omega) (by omega) br.1 (by omega) ⟨by omega, by omega⟩) (by omega) ?_
      have bb := burntI_b (h := cv s c n i 0) (last := cv s c n i 6) g0.2 br.1
      refine Gs_callV2W p14_49 (by rfl) (by rfl) (by first | rfl | assumption | exact (show isTale _ from by assumption).1 | exact (show isCamp _ _ from by assumption).1 | exact (show isRow _ _ from by assumption).1) (Nat.le_of_ble_eq_true rfl) (by decide) (c_setHot hc o.2.2.2.2 hi hin bb.1 bb.2) (by omega) ?_
      refine Gs_iinc2 (b52 := none) p14_52 (by first | rfl | assumption) ?_
      refine Gs_goto (tgt := 14) p14_55 (by rfl) ?_
      first
        | exact ih _ ((o.hot hi hin bb.1 bb.2).eq (burnV_in hi (by omega)))
        | exact ih _ (o.eq (burnV_out (by rw [← e0]; omega)))
  · show ∀ u, COp s u c n (burnV (cv s c n) (rnI s t (vF s c 2)) (n)) (vF s c 2) → Gs X d 14 14 [some (.ref c), some (.int (iI (rnI s t (vF s c 2)))), some (.int (iI (n)))] [] (u) _
    intro u o
    refine Gs_iload_n p14_14 rfl rfl ?_
    refine Gs_aload_n p14_15 rfl rfl ?_
    refine Gs_callV0I p14_16 (by rfl) (by rfl) (by first | rfl | assumption | exact (show isTale _ from by assumption).1 | exact (show isCamp _ _ from by assumption).1 | exact (show isRow _ _ from by assumption).1) (Nat.le_of_ble_eq_true rfl) (by decide) (c_companies hc o.2.2.2.2) (by omega) ?_
    refine Gs_icmp_ge (tgt := 58) p14_19 (by rfl) (by first | assumption | exact ⟨by omega, by omega⟩ | (split <;> exact ⟨by omega, by omega⟩)) (by first | assumption | exact ⟨by omega, by omega⟩ | (split <;> exact ⟨by omega, by omega⟩)) (fun hc19 => ?_) (fun hc19 => absurd ‹_› (by first | omega | assumption))
    refine Gs_aload_n p14_58 rfl rfl ?_
    refine Gs_dup p14_59 rfl ?_
    refine Gs_getI p14_60 (by first | rfl | assumption | exact (show isTale _ from by assumption).1 | exact (show isCamp _ _ from by assumption).1 | exact (show isRow _ _ from by assumption).1) (by rfl) ?_
    rw [o.2.2.2.1]
    refine Gs_iconst p14_63 ?_
    refine Gs_iadd p14_64 ?_
    refine Gs_putI p14_65 (by first | rfl | assumption | exact (show isTale _ from by assumption).1 | exact (show isCamp _ _ from by assumption).1 | exact (show isRow _ _ from by assumption).1) (by rfl) (by rfl) (by rfl) ?_
    refine Gs_vret p14_68 rfl ⟨rfl, ?_⟩
    obtain ⟨q1, q2, q3, q4, q5⟩ := o
    refine ⟨q1, q2, fun i k e => by rw [vF_sF, if_neg e]; exact q3 i k e, by rw [vF_sF, if_pos ⟨rfl, rfl⟩], ?_⟩
    obtain ⟨p1, p2, p3, p4, p5, p6⟩ := q5
    exact ⟨p1, p2, by rw [vF_sF, if_neg (by omega)]; exact p3, by rw [vF_sF, if_pos ⟨rfl, rfl⟩]; omega, by rw [vF_sF, if_pos ⟨rfl, rfl⟩]; omega, p6⟩
