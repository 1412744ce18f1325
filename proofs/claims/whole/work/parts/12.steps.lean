/-! every instruction: the cases together -/
section VMT2
variable {p : Program} {l : Launch} {e : Env} {R : Room} {s : State} {m : MethodId} {args : Array Value} {below : List Frame} {meth : Method} {c : Code} {H : Heap} {locs : List Loc} {Q : State → Prop}
variable {D : va_G} {κ : Nat → ClassId} {base b adS adV L : Nat} {xs : Nat → Int32} {r : vm_M} {lsr : Array Slot} {ls ls' : vm_L} {st st' : List Value} {w w' : vm_W} {pc' n0 k0 d : Nat}
set_option maxHeartbeats 2000000 in
set_option maxRecDepth 20000 in
theorem vm_step_W {q : vm_I} (C : vm_C D κ base b adS adV L xs p s m args meth c r) (hr : vm_ok r) (hq : q ∈ r.2.2.2.2.2) (hd : d ≤ R.frames ∧ 40 * d + 20 ≤ R.locals)
    (hs : vm_step d r q ls st w = some (pc', ls', st', w')) (hn : n0 ≤ w.1 ∧ k0 ≤ w.2.1) (hc : w'.1 ≤ n0 + R.cells ∧ w'.2.1 ≤ k0 + R.slots)
    (kk : ∀ lsr' H' locs', vm_LV (vm_r base b adS) lsr' r.2.2.2.1 ls' → vm_T D κ base b adS L xs s.heap w' H' locs' → W p l e R s m args below meth c H' locs' (w'.1 - n0) (w'.2.1 - k0) Q (F0 m pc' lsr' (st'.map (vm_v (vm_r base b adS)))))
    (hL : vm_LV (vm_r base b adS) lsr r.2.2.2.1 ls) (hT : vm_T D κ base b adS L xs s.heap w H locs) :
    W p l e R s m args below meth c H locs (w.1 - n0) (w.2.1 - k0) Q (F0 m q.1 lsr (st.map (vm_v (vm_r base b adS)))) := by
  obtain ⟨o, ho, hdec, hchk, hm20, hcl⟩ := hr
  have hdg := hdec q hq
  have hch := hchk q hq
  obtain ⟨pc, i, len, a, bb, cn⟩ := q
  have hlen : len = vm_len i len := by
    have h := hch
    unfold vm_chk at h
    rw [Bool.and_eq_true, beq_iff_eq] at h
    exact h.1
  replace hdg : decode r.2.2.1 pc = .ok (i, len) := hdg
  show W p l e R s m args below meth c H locs (w.1 - n0) (w.2.1 - k0) Q (F0 m pc lsr (st.map (vm_v (vm_r base b adS))))
  clear hq hdec hchk
  cases i
  case iconst => exact vm_s_iconst _ C ho hcl hdg hlen hch hd hs hn hc kk hL hT
  case bipush => exact vm_s_bipush _ C ho hcl hdg hlen hch hd hs hn hc kk hL hT
  case sipush => exact vm_s_sipush _ C ho hcl hdg hlen hch hd hs hn hc kk hL hT
  case lconst => exact vm_s_lconst _ C ho hcl hdg hlen hch hd hs hn hc kk hL hT
  case aconst_null => exact vm_s_aconst_null  C ho hcl hdg hlen hch hd hs hn hc kk hL hT
  case ldc => exact vm_s_ldc _ C ho hcl hdg hlen hch hd hs hn hc kk hL hT
  case ldc2_w => exact vm_s_ldc2_w _ C ho hcl hdg hlen hch hd hs hn hc kk hL hT
  case iload_n => exact vm_s_iload_n _ C ho hcl hdg hlen hch hd hs hn hc kk hL hT
  case iload => exact vm_s_iload _ C ho hcl hdg hlen hch hd hs hn hc kk hL hT
  case lload_n => exact vm_s_lload_n _ C ho hcl hdg hlen hch hd hs hn hc kk hL hT
  case lload => exact vm_s_lload _ C ho hcl hdg hlen hch hd hs hn hc kk hL hT
  case aload_n => exact vm_s_aload_n _ C ho hcl hdg hlen hch hd hs hn hc kk hL hT
  case istore_n => exact vm_s_istore_n _ C ho hcl hdg hlen hch hd hs hn hc kk hL hT
  case istore => exact vm_s_istore _ C ho hcl hdg hlen hch hd hs hn hc kk hL hT
  case astore_n => exact vm_s_astore_n _ C ho hcl hdg hlen hch hd hs hn hc kk hL hT
  case lstore_n => exact vm_s_lstore_n _ C ho hcl hdg hlen hch hd hs hn hc kk hL hT
  case lstore => exact vm_s_lstore _ C ho hcl hdg hlen hch hd hs hn hc kk hL hT
  case iinc => exact vm_s_iinc _ _ C ho hcl hdg hlen hch hd hs hn hc kk hL hT
  case iadd => exact vm_s_iadd  C ho hcl hdg hlen hch hd hs hn hc kk hL hT
  case isub => exact vm_s_isub  C ho hcl hdg hlen hch hd hs hn hc kk hL hT
  case imul => exact vm_s_imul  C ho hcl hdg hlen hch hd hs hn hc kk hL hT
  case idiv => exact vm_s_idiv  C ho hcl hdg hlen hch hd hs hn hc kk hL hT
  case irem => exact vm_s_irem  C ho hcl hdg hlen hch hd hs hn hc kk hL hT
  case iand => exact vm_s_iand  C ho hcl hdg hlen hch hd hs hn hc kk hL hT
  case ior => exact vm_s_ior  C ho hcl hdg hlen hch hd hs hn hc kk hL hT
  case ixor => exact vm_s_ixor  C ho hcl hdg hlen hch hd hs hn hc kk hL hT
  case ishl => exact vm_s_ishl  C ho hcl hdg hlen hch hd hs hn hc kk hL hT
  case ishr => exact vm_s_ishr  C ho hcl hdg hlen hch hd hs hn hc kk hL hT
  case ladd => exact vm_s_ladd  C ho hcl hdg hlen hch hd hs hn hc kk hL hT
  case lmul => exact vm_s_lmul  C ho hcl hdg hlen hch hd hs hn hc kk hL hT
  case ldiv => exact vm_s_ldiv  C ho hcl hdg hlen hch hd hs hn hc kk hL hT
  case lrem => exact vm_s_lrem  C ho hcl hdg hlen hch hd hs hn hc kk hL hT
  case lcmp => exact vm_s_lcmp  C ho hcl hdg hlen hch hd hs hn hc kk hL hT
  case i2l => exact vm_s_i2l  C ho hcl hdg hlen hch hd hs hn hc kk hL hT
  case l2i => exact vm_s_l2i  C ho hcl hdg hlen hch hd hs hn hc kk hL hT
  case dup => exact vm_s_dup  C ho hcl hdg hlen hch hd hs hn hc kk hL hT
  case pop => exact vm_s_pop  C ho hcl hdg hlen hch hd hs hn hc kk hL hT
  case dup2 => exact vm_s_dup2  C ho hcl hdg hlen hch hd hs hn hc kk hL hT
  case goto => exact vm_s_goto _ C ho hcl hdg hlen hch hd hs hn hc kk hL hT
  case ifCond => exact vm_s_ifCond _ _ C ho hcl hdg hlen hch hd hs hn hc kk hL hT
  case if_icmp => exact vm_s_if_icmp _ _ C ho hcl hdg hlen hch hd hs hn hc kk hL hT
  case ifnull => exact vm_s_ifnull _ C ho hcl hdg hlen hch hd hs hn hc kk hL hT
  case ifnonnull => exact vm_s_ifnonnull _ C ho hcl hdg hlen hch hd hs hn hc kk hL hT
  case tableswitch => exact vm_s_tableswitch _ _ _ _ C ho hcl hdg hlen hch hd hs hn hc kk hL hT
  case lookupswitch => exact vm_s_lookupswitch _ _ C ho hcl hdg hlen hch hd hs hn hc kk hL hT
  case getfield => exact vm_s_getfield _ C ho hcl hdg hlen hch hd hs hn hc kk hL hT
  case putfield => exact vm_s_putfield _ C ho hcl hdg hlen hch hd hs hn hc kk hL hT
  case iaload => exact vm_s_iaload  C ho hcl hdg hlen hch hd hs hn hc kk hL hT
  case iastore => exact vm_s_iastore  C ho hcl hdg hlen hch hd hs hn hc kk hL hT
  case aaload => exact vm_s_aaload  C ho hcl hdg hlen hch hd hs hn hc kk hL hT
  case aastore => exact vm_s_aastore  C ho hcl hdg hlen hch hd hs hn hc kk hL hT
  case arraylength => exact vm_s_arraylength  C ho hcl hdg hlen hch hd hs hn hc kk hL hT
  case newarray => exact vm_s_newarray _ C ho hcl hdg hlen hch hd hs hn hc kk hL hT
  case anewarray => exact vm_s_anewarray _ C ho hcl hdg hlen hch hd hs hn hc kk hL hT
  case new => exact vm_s_new _ C ho hcl hdg hlen hch hd hs hn hc kk hL hT
  case invokespecial => exact vm_s_invokespecial _ C ho hcl hdg hlen hch hd hs hn hc kk hL hT
  case invokevirtual => exact vm_s_invokevirtual _ C ho hcl hdg hlen hch hd hs hn hc kk hL hT
  all_goals exact absurd hs (fun h => by cases h)
end VMT2
