/-! keeping a fire in: ways by code and in order -/
/-- how many logs a way takes, none if the fire goes out or a log is wanting -/
def kcN (R : Int → Int) : Nat → (Nat → Int) → (Int → Int) → Int → Int → Int → Option Int
  | 0, _, _, _, _, _ => some 0
  | n + 1, r, lg, hot, last, h =>
    if r 0 < 4 then
      (if 1 ≤ lg (r 0) ∧ 1 ≤ fedI hot (r 0) ∧ 1 ≤ burntI (fedI hot (r 0)) (r 0) (R h) then
        (match kcN R n (fun i => r (i + 1)) (up1 lg (r 0) (lg (r 0) - 1)) (burntI (fedI hot (r 0)) (r 0) (R h)) (r 0) (h + 1) with
          | some m => some (m + 1)
          | none => none)
      else none)
    else (if 1 ≤ burntI hot last (R h) then kcN R n (fun i => r (i + 1)) lg (burntI hot last (R h)) last (h + 1) else none)
theorem kcN_s {R : Int → Int} {n : Nat} {r : Nat → Int} {lg : Int → Int} {hot last h : Int} : kcN R (n + 1) r lg hot last h = if r 0 < 4 then
      (if 1 ≤ lg (r 0) ∧ 1 ≤ fedI hot (r 0) ∧ 1 ≤ burntI (fedI hot (r 0)) (r 0) (R h) then
        (match kcN R n (fun i => r (i + 1)) (up1 lg (r 0) (lg (r 0) - 1)) (burntI (fedI hot (r 0)) (r 0) (R h)) (r 0) (h + 1) with
          | some m => some (m + 1)
          | none => none)
      else none)
    else (if 1 ≤ burntI hot last (R h) then kcN R n (fun i => r (i + 1)) lg (burntI hot last (R h)) last (h + 1) else none) := rfl
theorem kcN_le {R : Int → Int} : ∀ (n : Nat) (r : Nat → Int) (lg : Int → Int) (hot last h m : Int), kcN R n r lg hot last h = some m → 0 ≤ m ∧ m ≤ n := by
  intro n
  induction n with
  | zero =>
    intro r lg hot last h m e
    have : m = 0 := (Option.some.inj e).symm
    omega
  | succ n ih =>
    intro r lg hot last h m e
    rw [kcN_s] at e
    split at e
    · split at e
      · cases q : kcN R n (fun i => r (i + 1)) (up1 lg (r 0) (lg (r 0) - 1)) (burntI (fedI hot (r 0)) (r 0) (R h)) (r 0) (h + 1) with
        | none => rw [q] at e; cases e
        | some k =>
          rw [q] at e
          have : m = k + 1 := (Option.some.inj e).symm
          have := ih _ _ _ _ _ _ q
          omega
      · cases e
    · split at e
      · have := ih _ _ _ _ _ _ e
        omega
      · cases e
theorem kcN_cong {R : Int → Int} : ∀ (n : Nat) (r r' : Nat → Int) (lg lg' : Int → Int) (hot last h : Int), (∀ i, i < n → r i = r' i ∧ 0 ≤ r i) → (∀ x, 0 ≤ x → x < 4 → lg x = lg' x) → kcN R n r lg hot last h = kcN R n r' lg' hot last h := by
  intro n
  induction n with
  | zero => intro _ _ _ _ _ _ _ _ _; rfl
  | succ n ih =>
    intro r r' lg lg' hot last h hr hl
    have r0 := hr 0 (by omega)
    rw [kcN_s, kcN_s, ← r0.1]
    by_cases c : r 0 < 4
    · rw [if_pos c, if_pos c, ← hl (r 0) r0.2 c, ih (fun i => r (i + 1)) (fun i => r' (i + 1)) (up1 lg (r 0) (lg (r 0) - 1)) (up1 lg' (r 0) (lg (r 0) - 1)) _ _ _ (fun i hi => hr (i + 1) (by omega)) (fun x a b => by rw [up1_at, up1_at]; split; rfl; exact hl x a b)]
    · rw [if_neg c, if_neg c, ih (fun i => r (i + 1)) (fun i => r' (i + 1)) lg lg' _ _ _ (fun i hi => hr (i + 1) (by omega)) hl]
def kpF (kpn : (Int → Int) → Int → Int → Int → Int → Option (Nat → Int)) (R : Int → Int) (lg : Int → Int) (hot last h more : Int) (w : Nat) : Option (Nat → Int) :=
  if w < 4 then (if 0 < more ∧ 1 ≤ lg w ∧ 1 ≤ fedI hot w then (match kpn (up1 lg w (lg w - 1)) (burntI (fedI hot w) w (R h)) w (h + 1) (more - 1) with
    | some p => some (cns w p)
    | none => none) else none)
  else (match kpn lg (burntI hot last (R h)) last (h + 1) more with
    | some p => some (cns (-4) p)
    | none => none)
/-- the first way that takes just so many -/
def kp (R : Int → Int) : Nat → (Int → Int) → Int → Int → Int → Int → Option (Nat → Int)
  | 0, _, hot, _, _, more => if 1 ≤ hot ∧ more ≤ 0 then some (fun _ => 0) else none
  | n + 1, lg, hot, last, h, more => if hot < 1 ∨ ((n + 1 : Nat) : Int) < more then none else fstN (kpF (kp R n) R lg hot last h more) 5 0
theorem kp_out {R : Int → Int} {n : Nat} {lg : Int → Int} {hot last h more : Int} (ho : hot < 1) : kp R n lg hot last h more = none := by
  cases n with
  | zero => exact if_neg (by omega)
  | succ n => exact if_pos (Or.inl ho)
def dm (d : Int) : Int := if d < 4 then d else -4
def Gk (n : Nat) (p : Nat → Int) (c : Nat) : Prop := ∀ i, i < n → p i = dm (dgI 5 n c i)
theorem kp_ok {R : Int → Int} : ∀ (n : Nat) (lg : Int → Int) (hot last h more : Int), 1 ≤ hot → 0 ≤ more → FS (fun c => decide (kcN R n (dgI 5 n c) lg hot last h = some more)) (Gk n) 0 (5 ^ n) (kp R n lg hot last h more) := by
  intro n
  induction n with
  | zero =>
    intro lg hot last h more ho hm
    refine ⟨fun e c _ hc => ?_, fun p hp => ⟨0, Nat.le_refl _, by decide, fun i hi => absurd hi (by omega), ?_, fun c' _ hc => absurd hc (by omega)⟩⟩
    · refine decide_eq_false (fun q => ?_)
      have q : (0 : Int) = more := Option.some.inj q
      have e : (if 1 ≤ hot ∧ more ≤ 0 then some (fun _ : Nat => (0 : Int)) else none) = none := e
      rw [if_pos ⟨ho, by omega⟩] at e
      cases e
    · refine decide_eq_true ?_
      show some (0 : Int) = some more
      have hp : (if 1 ≤ hot ∧ more ≤ 0 then some (fun _ : Nat => (0 : Int)) else none) = some p := hp
      split at hp
      · congr 1; omega
      · cases hp
  | succ n ih =>
    intro lg hot last h more ho hm
    unfold kp
    by_cases hbig : ((n + 1 : Nat) : Int) < more
    · rw [if_pos (Or.inr hbig)]
      refine ⟨fun _ c _ _ => decide_eq_false (fun q => ?_), fun p hp => by cases hp⟩
      have := kcN_le _ _ _ _ _ _ _ q
      omega
    · rw [if_neg (by omega)]
      have key := fstN_FS (Q := fun c => decide (kcN R (n + 1) (dgI 5 (n + 1) c) lg hot last h = some more)) (G := Gk (n + 1)) (b := 5) (N := 5 ^ n) (f := kpF (kp R n) R lg hot last h more) (fun w hw => ?_) 5 0 rfl
      · rw [Nat.zero_mul, show 5 * 5 ^ n = 5 ^ (n + 1) by rw [Nat.pow_succ, Nat.mul_comm]] at key
        exact key
      · have d0 : ∀ c', c' < 5 ^ n → dgI 5 (n + 1) (w * 5 ^ n + c') 0 = (w : Int) := fun c' hc' => by unfold dgI; rw [dgN_0 hw hc']
        have ds : ∀ c' i, i < n → dgI 5 (n + 1) (w * 5 ^ n + c') (i + 1) = dgI 5 n c' i := fun c' i hi => by unfold dgI; rw [dgN_s (by decide) hi]
        have dc : ∀ c' lg' hot' last' h', kcN R n (fun i => dgI 5 (n + 1) (w * 5 ^ n + c') (i + 1)) lg' hot' last' h' = kcN R n (dgI 5 n c') lg' hot' last' h' := fun c' lg' hot' last' h' => kcN_cong n _ _ _ _ _ _ _ (fun i hi => ⟨ds c' i hi, by unfold dgI; omega⟩) (fun _ _ _ => rfl)
        have sp : ∀ c, w * 5 ^ n ≤ c → c < (w + 1) * 5 ^ n → ∃ c', c' < 5 ^ n ∧ c = w * 5 ^ n + c' := fun c a b => ⟨c - w * 5 ^ n, by rw [Nat.add_mul] at b; omega, by omega⟩
        -- what a code under w says
        have lift : ∀ (o : Option (Nat → Int)) (v : Int) (Q' : Nat → Bool), v = dm (w : Int) → (∀ c', c' < 5 ^ n → decide (kcN R (n + 1) (dgI 5 (n + 1) (w * 5 ^ n + c')) lg hot last h = some more) = Q' c') → FS Q' (Gk n) 0 (5 ^ n) o → FS (fun c => decide (kcN R (n + 1) (dgI 5 (n + 1) c) lg hot last h = some more)) (Gk (n + 1)) (w * 5 ^ n) ((w + 1) * 5 ^ n) (match o with
            | some p => some (cns v p)
            | none => none) := fun o v Q' hv hQ fs => by
          cases o with
          | none =>
            refine ⟨fun _ c a b => ?_, fun p hp => by cases hp⟩
            obtain ⟨c', h1, h2⟩ := sp c a b
            show decide (kcN R (n + 1) (dgI 5 (n + 1) c) lg hot last h = some more) = false
            rw [h2, hQ c' h1]
            exact fs.1 rfl c' (Nat.zero_le _) h1
          | some q =>
            refine ⟨fun h => (by cases h), fun p hp => ?_⟩
            have : p = cns v q := (Option.some.inj hp).symm
            subst this
            obtain ⟨c', _, h2, h3, h4, h5⟩ := fs.2 q rfl
            have hlt : w * 5 ^ n + c' < (w + 1) * 5 ^ n := by rw [Nat.add_mul]; omega
            refine ⟨w * 5 ^ n + c', by omega, hlt, fun i hi => ?_, ?_, fun d a b => ?_⟩
            · cases i with
              | zero => rw [d0 c' h2]; exact hv
              | succ i => rw [ds c' i (by omega)]; exact h3 i (by omega)
            · show decide (kcN R (n + 1) (dgI 5 (n + 1) (w * 5 ^ n + c')) lg hot last h = some more) = true
              rw [hQ c' h2]; exact h4
            · obtain ⟨d', k1, k2⟩ := sp d a (by omega)
              show decide (kcN R (n + 1) (dgI 5 (n + 1) d) lg hot last h = some more) = false
              rw [k2, hQ d' k1]
              exact h5 d' (Nat.zero_le _) (by omega)
        have nolift : (∀ c', c' < 5 ^ n → ¬ kcN R (n + 1) (dgI 5 (n + 1) (w * 5 ^ n + c')) lg hot last h = some more) → FS (fun c => decide (kcN R (n + 1) (dgI 5 (n + 1) c) lg hot last h = some more)) (Gk (n + 1)) (w * 5 ^ n) ((w + 1) * 5 ^ n) none := fun hn => by
          refine ⟨fun _ c a b => ?_, fun p hp => by cases hp⟩
          obtain ⟨c', h1, h2⟩ := sp c a b
          refine decide_eq_false ?_
          rw [h2]
          exact hn c' h1
        unfold kpF
        by_cases w4 : w < 4
        · rw [if_pos w4]
          by_cases g : 0 < more ∧ 1 ≤ lg w ∧ 1 ≤ fedI hot w
          · rw [if_pos g]
            by_cases hb : 1 ≤ burntI (fedI hot w) w (R h)
            · refine lift _ _ (fun c' => decide (kcN R n (dgI 5 n c') (up1 lg w (lg w - 1)) (burntI (fedI hot w) w (R h)) w (h + 1) = some (more - 1))) ?_ (fun c' hc' => ?_) (ih _ _ _ _ _ hb (by omega))
              · unfold dm; rw [if_pos (by omega)]
              · rw [kcN_s, d0 c' hc', dc, if_pos (by omega), if_pos ⟨g.2.1, g.2.2, hb⟩]
                cases kcN R n (dgI 5 n c') (up1 lg w (lg w - 1)) (burntI (fedI hot w) w (R h)) w (h + 1) with
                | none => rfl
                | some k =>
                  show decide (some (k + 1) = some more) = decide (some k = some (more - 1))
                  by_cases e : k + 1 = more
                  · rw [decide_eq_true (congrArg some e), decide_eq_true (congrArg some (show k = more - 1 by omega))]
                  · rw [decide_eq_false (fun q => e (Option.some.inj q)), decide_eq_false (fun q => e (by have := Option.some.inj q; omega))]
            · rw [kp_out (by omega)]
              refine nolift (fun c' hc' e => ?_)
              rw [kcN_s, d0 c' hc', if_pos (by omega), if_neg (fun q => hb q.2.2)] at e
              cases e
          · rw [if_neg g]
            refine nolift (fun c' hc' e => ?_)
            rw [kcN_s, d0 c' hc', if_pos (by omega)] at e
            split at e
            · rename_i q
              cases e2 : kcN R n (fun i => dgI 5 (n + 1) (w * 5 ^ n + c') (i + 1)) (up1 lg w (lg w - 1)) (burntI (fedI hot w) w (R h)) w (h + 1) with
              | none => rw [e2] at e; cases e
              | some k =>
                rw [e2] at e
                have := kcN_le _ _ _ _ _ _ _ e2
                have e3 : k + 1 = more := Option.some.inj e
                exact g ⟨by omega, q.1, q.2.1⟩
            · cases e
        · rw [if_neg w4]
          by_cases hb : 1 ≤ burntI hot last (R h)
          · refine lift _ _ (fun c' => decide (kcN R n (dgI 5 n c') lg (burntI hot last (R h)) last (h + 1) = some more)) ?_ (fun c' hc' => ?_) (ih _ _ _ _ _ hb hm)
            · unfold dm; rw [if_neg (by omega)]
            · rw [kcN_s, d0 c' hc', if_neg (by omega), if_pos hb, dc]
          · rw [kp_out (by omega)]
            refine nolift (fun c' hc' e => ?_)
            rw [kcN_s, d0 c' hc', if_neg (by omega), if_neg hb] at e
            cases e
/-- the fewest logs, and the first way of so many -/
def kpA (R : Int → Int) (n : Nat) (lg : Int → Int) (hot last : Int) : Nat → Nat → Option (Nat × (Nat → Int))
  | 0, _ => none
  | f + 1, m => match kp R n lg hot last 0 m with
    | some p => some (m, p)
    | none => kpA R n lg hot last f (m + 1)
theorem kpA_s {R : Int → Int} {n : Nat} {lg : Int → Int} {hot last : Int} {f m : Nat} : kpA R n lg hot last (f + 1) m = match kp R n lg hot last 0 m with
    | some p => some (m, p)
    | none => kpA R n lg hot last f (m + 1) := rfl
/-- what a scan of the codes below q has found -/
def Inv (R : Int → Int) (n : Nat) (lg : Int → Int) (hot last : Int) (q : Nat) (F : Int) (b : Nat → Int) : Prop :=
  (F = 1000000 ∧ ∀ c, c < q → kcN R n (dgI 5 n c) lg hot last 0 = none) ∨ (∃ c0, c0 < q ∧ kcN R n (dgI 5 n c0) lg hot last 0 = some F ∧ (∀ i, i < n → b i = dgI 5 n c0 i) ∧ (∀ c m, c < q → kcN R n (dgI 5 n c) lg hot last 0 = some m → F ≤ m) ∧ (∀ c m, c < c0 → kcN R n (dgI 5 n c) lg hot last 0 = some m → F < m))
theorem Inv.skip {R : Int → Int} {n : Nat} {lg : Int → Int} {hot last : Int} {q : Nat} {F : Int} {b : Nat → Int} (h : Inv R n lg hot last q F b) (hq : ∀ m, kcN R n (dgI 5 n q) lg hot last 0 = some m → F ≤ m) (hn : n ≤ 6) : Inv R n lg hot last (q + 1) F b := by
  rcases h with ⟨h1, h2⟩ | ⟨c0, h1, h2, h3, h4, h5⟩
  · refine Or.inl ⟨h1, fun c hc => ?_⟩
    by_cases e : c = q
    · subst e
      cases e2 : kcN R n (dgI 5 n c) lg hot last 0 with
      | none => rfl
      | some m =>
        have := hq m e2
        have := kcN_le _ _ _ _ _ _ _ e2
        omega
    · exact h2 c (by omega)
  · refine Or.inr ⟨c0, by omega, h2, h3, fun c m hc e => ?_, h5⟩
    by_cases ec : c = q
    · subst ec; exact hq m e
    · exact h4 c m (by omega) e
theorem Inv.take {R : Int → Int} {n : Nat} {lg : Int → Int} {hot last : Int} {q : Nat} {F F' : Int} {b b' : Nat → Int} (h : Inv R n lg hot last q F b) (hq : kcN R n (dgI 5 n q) lg hot last 0 = some F') (hF : F' < F) (hb : ∀ i, i < n → b' i = dgI 5 n q i) : Inv R n lg hot last (q + 1) F' b' := by
  have lo : ∀ c m, c < q → kcN R n (dgI 5 n c) lg hot last 0 = some m → F' < m := fun c m hc e => by
    rcases h with ⟨h1, h2⟩ | ⟨c0, h1, h2, h3, h4, h5⟩
    · rw [h2 c hc] at e; cases e
    · have := h4 c m hc e; omega
  refine Or.inr ⟨q, by omega, hq, hb, fun c m hc e => ?_, lo⟩
  by_cases ec : c = q
  · subst ec
    have : F' = m := Option.some.inj (hq.symm.trans e)
    omega
  · have := lo c m (by omega) e; omega
theorem kpA_none {R : Int → Int} {n : Nat} {lg : Int → Int} {hot last : Int} (f : Nat) : ∀ m : Nat, (∀ j : Nat, m ≤ j → j < m + f → kp R n lg hot last 0 j = none) → kpA R n lg hot last f m = none := by
  induction f with
  | zero => intro m _; rfl
  | succ f ih =>
    intro m h
    rw [kpA_s, h m (Nat.le_refl _) (by omega)]
    exact ih (m + 1) (fun j a b => h j (by omega) (by omega))
theorem kpA_some {R : Int → Int} {n : Nat} {lg : Int → Int} {hot last : Int} {k : Nat} {p : Nat → Int} (hk : kp R n lg hot last 0 k = some p) (f : Nat) : ∀ m : Nat, m ≤ k → k < m + f → (∀ j : Nat, m ≤ j → j < k → kp R n lg hot last 0 j = none) → kpA R n lg hot last f m = some (k, p) := by
  induction f with
  | zero => intro m h1 h2; omega
  | succ f ih =>
    intro m h1 h2 h
    rw [kpA_s]
    by_cases e : m = k
    · subst e; rw [hk]
    · rw [h m (Nat.le_refl _) (by omega)]
      exact ih (m + 1) (by omega) (by omega) (fun j a b => h j (by omega) b)
/-- the whole scan finds what the ordered search finds -/
theorem Inv.fin {R : Int → Int} {n : Nat} {lg : Int → Int} {hot last : Int} {F : Int} {b : Nat → Int} (h : Inv R n lg hot last (5 ^ n) F b) (ho : 1 ≤ hot) : (F = 1000000 ∧ kpA R n lg hot last (n + 1) 0 = none) ∨ (0 ≤ F ∧ F ≤ n ∧ ∃ p, kpA R n lg hot last (n + 1) 0 = some (F.toNat, p) ∧ ∀ i, i < n → p i = dm (b i)) := by
  rcases h with ⟨h1, h2⟩ | ⟨c0, h1, h2, h3, h4, h5⟩
  · refine Or.inl ⟨h1, kpA_none _ _ (fun j _ _ => ?_)⟩
    cases e : kp R n lg hot last 0 j with
    | none => rfl
    | some p =>
      obtain ⟨c, _, c1, c2, c3, _⟩ := (kp_ok n lg hot last 0 j ho (by omega)).2 p e
      have c3 := of_decide_eq_true c3
      rw [h2 c c1] at c3; cases c3
  · have fl := kcN_le _ _ _ _ _ _ _ h2
    have fe : ((F.toNat : Nat) : Int) = F := by omega
    refine Or.inr ⟨fl.1, fl.2, ?_⟩
    have ok := kp_ok (R := R) n lg hot last 0 F.toNat ho (by omega)
    rw [fe] at ok
    cases e : kp R n lg hot last 0 F with
    | none =>
      have := ok.1 e c0 (Nat.zero_le _) h1
      exact absurd h2 (of_decide_eq_false this)
    | some p =>
      obtain ⟨c, _, c1, c2, c3, c4⟩ := ok.2 p e
      have c3 := of_decide_eq_true c3
      have ec : c = c0 := by
        rcases Nat.lt_trichotomy c c0 with q | q | q
        · have := h5 c F q c3; omega
        · exact q
        · exact absurd h2 (of_decide_eq_false (c4 c0 (Nat.zero_le _) q))
      subst ec
      refine ⟨p, kpA_some (by rw [fe]; exact e) (n + 1) 0 (Nat.zero_le _) (by omega) (fun j _ hj => ?_), fun i hi => by rw [c2 i hi, h3 i hi]⟩
      cases e2 : kp R n lg hot last 0 j with
      | none => rfl
      | some p' =>
        obtain ⟨d, _, d1, d2, d3, _⟩ := (kp_ok n lg hot last 0 j ho (by omega)).2 p' e2
        have := h4 d j d1 (of_decide_eq_true d3)
        omega