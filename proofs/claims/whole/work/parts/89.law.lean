/-! the law's loop -/
theorem law_and {z : Int} (hz : rg z) : ∃ j : Nat, j < 32 ∧ iI z &&& iI 31 = iI (j : Int) := by
  obtain ⟨j, hj, e⟩ := pk_andE (iI z) (m := iI 31) 5 (by decide)
  exact ⟨j, hj, e⟩
set_option maxHeartbeats 2000000 in
set_option maxRecDepth 20000 in
theorem law_write {X : vX} {K i : Int} {s : St} {d : Nat} {Q : Option Value → St → Prop} (hX : (X.1 : Int) ≤ 2560) (hR : Rel K s) (hK : K < 512) (hd : 1000 ≤ d) (hi : 0 ≤ i) (hiL : i + 5 ≤ X.1) (IH : ∀ s2, Rel (K + 1) s2 → Gs X d 205 18 [some (.ref vm_scr), some (.ref 0), some (.ref 95), some (.int (iI (i + 5)))] [] s2 Q) :
    Gs X d 205 160 [some (.ref vm_scr), some (.ref 0), some (.ref 95), some (.int (iI i))] [] s Q := by
  obtain ⟨z, s1, s2, hz, c1, c2, hR2⟩ := T_write (X := X) hR hK (x1 := (X.2 (i + 1).toNat).toInt) (rg_of _)
  refine Gs_aload_n p205_160 rfl rfl ?_
  refine Gs_aload_n p205_161 rfl rfl ?_
  refine Gs_iload_n p205_162 rfl rfl ?_
  refine Gs_iconst p205_163 ?_
  refine Gs_iadd p205_164 ?_
  refine Gs_sld p205_165 (by omega) (by omega) (by omega) ?_
  refine Gs_callV1I p205_166 (by rfl) (by rfl) (by first | rfl | assumption | exact (show isTale _ from by assumption).1 | exact (show isCamp _ _ from by assumption).1 | exact (show isRow _ _ from by assumption).1) (Nat.le_of_ble_eq_true rfl) (by decide) (c1) (by omega) ?_
  refine Gs_aload_n p205_169 rfl rfl ?_
  refine Gs_aload_n p205_170 rfl rfl ?_
  refine Gs_iload_n p205_171 rfl rfl ?_
  refine Gs_iconst p205_172 ?_
  refine Gs_iadd p205_173 ?_
  refine Gs_sld p205_174 (by omega) (by omega) (by omega) ?_
  refine Gs_callV1I p205_175 (by rfl) (by rfl) (by first | rfl | assumption | exact (show isTale _ from by assumption).1 | exact (show isCamp _ _ from by assumption).1 | exact (show isRow _ _ from by assumption).1) (Nat.le_of_ble_eq_true rfl) (by decide) (c2) (by omega) ?_
  refine Gs_icmp_eq (tgt := 954) p205_178 (by rfl) hz hz (fun h178 => ?_) (fun h178 => absurd rfl ‹_›)
  refine Gs_iinc3 (b53 := none) p205_954 rfl ?_
  refine Gs_goto (tgt := 18) p205_957 (by rfl) ?_
  exact IH s2 hR2
set_option maxHeartbeats 2000000 in
set_option maxRecDepth 20000 in
theorem law_wipe {X : vX} {K i : Int} {s : St} {d : Nat} {Q : Option Value → St → Prop} (hX : (X.1 : Int) ≤ 2560) (hR : Rel K s) (hK : K < 512) (hd : 1000 ≤ d) (hi : 0 ≤ i) (hiL : i + 5 ≤ X.1) (IH : ∀ s2, Rel (K + 1) s2 → Gs X d 205 18 [some (.ref vm_scr), some (.ref 0), some (.ref 95), some (.int (iI (i + 5)))] [] s2 Q) :
    Gs X d 205 183 [some (.ref vm_scr), some (.ref 0), some (.ref 95), some (.int (iI i))] [] s Q := by
  obtain ⟨z, s1, s2, hz, c1, c2, hR2⟩ := T_wipe (X := X) hR hK  
  refine Gs_aload_n p205_183 rfl rfl ?_
  refine Gs_callV0I p205_184 (by rfl) (by rfl) (by first | rfl | assumption | exact (show isTale _ from by assumption).1 | exact (show isCamp _ _ from by assumption).1 | exact (show isRow _ _ from by assumption).1) (Nat.le_of_ble_eq_true rfl) (by decide) (c1) (by omega) ?_
  refine Gs_aload_n p205_187 rfl rfl ?_
  refine Gs_callV0I p205_188 (by rfl) (by rfl) (by first | rfl | assumption | exact (show isTale _ from by assumption).1 | exact (show isCamp _ _ from by assumption).1 | exact (show isRow _ _ from by assumption).1) (Nat.le_of_ble_eq_true rfl) (by decide) (c2) (by omega) ?_
  refine Gs_icmp_eq (tgt := 954) p205_191 (by rfl) hz hz (fun h191 => ?_) (fun h191 => absurd rfl ‹_›)
  refine Gs_iinc3 (b53 := none) p205_954 rfl ?_
  refine Gs_goto (tgt := 18) p205_957 (by rfl) ?_
  exact IH s2 hR2
set_option maxHeartbeats 2000000 in
set_option maxRecDepth 20000 in
theorem law_fault {X : vX} {K i : Int} {s : St} {d : Nat} {Q : Option Value → St → Prop} (hX : (X.1 : Int) ≤ 2560) (hR : Rel K s) (hK : K < 512) (hd : 1000 ≤ d) (hi : 0 ≤ i) (hiL : i + 5 ≤ X.1) (IH : ∀ s2, Rel (K + 1) s2 → Gs X d 205 18 [some (.ref vm_scr), some (.ref 0), some (.ref 95), some (.int (iI (i + 5)))] [] s2 Q) :
    Gs X d 205 196 [some (.ref vm_scr), some (.ref 0), some (.ref 95), some (.int (iI i))] [] s Q := by
  obtain ⟨z, s1, s2, hz, c1, c2, hR2⟩ := T_fault (X := X) hR hK  
  refine Gs_aload_n p205_196 rfl rfl ?_
  refine Gs_callV0I p205_197 (by rfl) (by rfl) (by first | rfl | assumption | exact (show isTale _ from by assumption).1 | exact (show isCamp _ _ from by assumption).1 | exact (show isRow _ _ from by assumption).1) (Nat.le_of_ble_eq_true rfl) (by decide) (c1) (by omega) ?_
  refine Gs_aload_n p205_200 rfl rfl ?_
  refine Gs_callV0I p205_201 (by rfl) (by rfl) (by first | rfl | assumption | exact (show isTale _ from by assumption).1 | exact (show isCamp _ _ from by assumption).1 | exact (show isRow _ _ from by assumption).1) (Nat.le_of_ble_eq_true rfl) (by decide) (c2) (by omega) ?_
  refine Gs_icmp_eq (tgt := 954) p205_204 (by rfl) hz hz (fun h204 => ?_) (fun h204 => absurd rfl ‹_›)
  refine Gs_iinc3 (b53 := none) p205_954 rfl ?_
  refine Gs_goto (tgt := 18) p205_957 (by rfl) ?_
  exact IH s2 hR2
set_option maxHeartbeats 2000000 in
set_option maxRecDepth 20000 in
theorem law_lay {X : vX} {K i : Int} {s : St} {d : Nat} {Q : Option Value → St → Prop} (hX : (X.1 : Int) ≤ 2560) (hR : Rel K s) (hK : K < 512) (hd : 1000 ≤ d) (hi : 0 ≤ i) (hiL : i + 5 ≤ X.1) (IH : ∀ s2, Rel (K + 1) s2 → Gs X d 205 18 [some (.ref vm_scr), some (.ref 0), some (.ref 95), some (.int (iI (i + 5)))] [] s2 Q) :
    Gs X d 205 209 [some (.ref vm_scr), some (.ref 0), some (.ref 95), some (.int (iI i))] [] s Q := by
  obtain ⟨z, s1, s2, hz, c1, c2, hR2⟩ := T_lay (X := X) hR hK  
  refine Gs_aload_n p205_209 rfl rfl ?_
  refine Gs_callV0I p205_210 (by rfl) (by rfl) (by first | rfl | assumption | exact (show isTale _ from by assumption).1 | exact (show isCamp _ _ from by assumption).1 | exact (show isRow _ _ from by assumption).1) (Nat.le_of_ble_eq_true rfl) (by decide) (c1) (by omega) ?_
  refine Gs_aload_n p205_213 rfl rfl ?_
  refine Gs_callV0I p205_214 (by rfl) (by rfl) (by first | rfl | assumption | exact (show isTale _ from by assumption).1 | exact (show isCamp _ _ from by assumption).1 | exact (show isRow _ _ from by assumption).1) (Nat.le_of_ble_eq_true rfl) (by decide) (c2) (by omega) ?_
  refine Gs_icmp_eq (tgt := 954) p205_217 (by rfl) hz hz (fun h217 => ?_) (fun h217 => absurd rfl ‹_›)
  refine Gs_iinc3 (b53 := none) p205_954 rfl ?_
  refine Gs_goto (tgt := 18) p205_957 (by rfl) ?_
  exact IH s2 hR2
set_option maxHeartbeats 2000000 in
set_option maxRecDepth 20000 in
theorem law_line {X : vX} {K i : Int} {s : St} {d : Nat} {Q : Option Value → St → Prop} (hX : (X.1 : Int) ≤ 2560) (hR : Rel K s) (hK : K < 512) (hd : 1000 ≤ d) (hi : 0 ≤ i) (hiL : i + 5 ≤ X.1) (IH : ∀ s2, Rel (K + 1) s2 → Gs X d 205 18 [some (.ref vm_scr), some (.ref 0), some (.ref 95), some (.int (iI (i + 5)))] [] s2 Q) :
    Gs X d 205 222 [some (.ref vm_scr), some (.ref 0), some (.ref 95), some (.int (iI i))] [] s Q := by
  obtain ⟨z, s1, s2, hz, c1, c2, hR2⟩ := T_line (X := X) hR hK (x1 := (X.2 (i + 1).toNat).toInt) (x2 := (X.2 (i + 2).toNat).toInt) (rg_of _) (rg_of _)
  refine Gs_aload_n p205_222 rfl rfl ?_
  refine Gs_aload_n p205_223 rfl rfl ?_
  refine Gs_iload_n p205_224 rfl rfl ?_
  refine Gs_iconst p205_225 ?_
  refine Gs_iadd p205_226 ?_
  refine Gs_sld p205_227 (by omega) (by omega) (by omega) ?_
  refine Gs_aload_n p205_228 rfl rfl ?_
  refine Gs_iload_n p205_229 rfl rfl ?_
  refine Gs_iconst p205_230 ?_
  refine Gs_iadd p205_231 ?_
  refine Gs_sld p205_232 (by omega) (by omega) (by omega) ?_
  refine Gs_callV2I p205_233 (by rfl) (by rfl) (by first | rfl | assumption | exact (show isTale _ from by assumption).1 | exact (show isCamp _ _ from by assumption).1 | exact (show isRow _ _ from by assumption).1) (Nat.le_of_ble_eq_true rfl) (by decide) (c1) (by omega) ?_
  refine Gs_aload_n p205_236 rfl rfl ?_
  refine Gs_aload_n p205_237 rfl rfl ?_
  refine Gs_iload_n p205_238 rfl rfl ?_
  refine Gs_iconst p205_239 ?_
  refine Gs_iadd p205_240 ?_
  refine Gs_sld p205_241 (by omega) (by omega) (by omega) ?_
  refine Gs_aload_n p205_242 rfl rfl ?_
  refine Gs_iload_n p205_243 rfl rfl ?_
  refine Gs_iconst p205_244 ?_
  refine Gs_iadd p205_245 ?_
  refine Gs_sld p205_246 (by omega) (by omega) (by omega) ?_
  refine Gs_callV2I p205_247 (by rfl) (by rfl) (by first | rfl | assumption | exact (show isTale _ from by assumption).1 | exact (show isCamp _ _ from by assumption).1 | exact (show isRow _ _ from by assumption).1) (Nat.le_of_ble_eq_true rfl) (by decide) (c2) (by omega) ?_
  refine Gs_icmp_eq (tgt := 954) p205_250 (by rfl) hz hz (fun h250 => ?_) (fun h250 => absurd rfl ‹_›)
  refine Gs_iinc3 (b53 := none) p205_954 rfl ?_
  refine Gs_goto (tgt := 18) p205_957 (by rfl) ?_
  exact IH s2 hR2
set_option maxHeartbeats 2000000 in
set_option maxRecDepth 20000 in
theorem law_rain {X : vX} {K i : Int} {s : St} {d : Nat} {Q : Option Value → St → Prop} (hX : (X.1 : Int) ≤ 2560) (hR : Rel K s) (hK : K < 512) (hd : 1000 ≤ d) (hi : 0 ≤ i) (hiL : i + 5 ≤ X.1) (IH : ∀ s2, Rel (K + 1) s2 → Gs X d 205 18 [some (.ref vm_scr), some (.ref 0), some (.ref 95), some (.int (iI (i + 5)))] [] s2 Q) :
    Gs X d 205 255 [some (.ref vm_scr), some (.ref 0), some (.ref 95), some (.int (iI i))] [] s Q := by
  obtain ⟨z, s1, s2, hz, c1, c2, hR2⟩ := T_rain (X := X) hR hK (x1 := (X.2 (i + 1).toNat).toInt) (rg_of _)
  refine Gs_aload_n p205_255 rfl rfl ?_
  refine Gs_aload_n p205_256 rfl rfl ?_
  refine Gs_iload_n p205_257 rfl rfl ?_
  refine Gs_iconst p205_258 ?_
  refine Gs_iadd p205_259 ?_
  refine Gs_sld p205_260 (by omega) (by omega) (by omega) ?_
  refine Gs_callV1I p205_261 (by rfl) (by rfl) (by first | rfl | assumption | exact (show isTale _ from by assumption).1 | exact (show isCamp _ _ from by assumption).1 | exact (show isRow _ _ from by assumption).1) (Nat.le_of_ble_eq_true rfl) (by decide) (c1) (by omega) ?_
  refine Gs_aload_n p205_264 rfl rfl ?_
  refine Gs_aload_n p205_265 rfl rfl ?_
  refine Gs_iload_n p205_266 rfl rfl ?_
  refine Gs_iconst p205_267 ?_
  refine Gs_iadd p205_268 ?_
  refine Gs_sld p205_269 (by omega) (by omega) (by omega) ?_
  refine Gs_callV1I p205_270 (by rfl) (by rfl) (by first | rfl | assumption | exact (show isTale _ from by assumption).1 | exact (show isCamp _ _ from by assumption).1 | exact (show isRow _ _ from by assumption).1) (Nat.le_of_ble_eq_true rfl) (by decide) (c2) (by omega) ?_
  refine Gs_icmp_eq (tgt := 954) p205_273 (by rfl) hz hz (fun h273 => ?_) (fun h273 => absurd rfl ‹_›)
  refine Gs_iinc3 (b53 := none) p205_954 rfl ?_
  refine Gs_goto (tgt := 18) p205_957 (by rfl) ?_
  exact IH s2 hR2
set_option maxHeartbeats 2000000 in
set_option maxRecDepth 20000 in
theorem law_company {X : vX} {K i : Int} {s : St} {d : Nat} {Q : Option Value → St → Prop} (hX : (X.1 : Int) ≤ 2560) (hR : Rel K s) (hK : K < 512) (hd : 1000 ≤ d) (hi : 0 ≤ i) (hiL : i + 5 ≤ X.1) (IH : ∀ s2, Rel (K + 1) s2 → Gs X d 205 18 [some (.ref vm_scr), some (.ref 0), some (.ref 95), some (.int (iI (i + 5)))] [] s2 Q) :
    Gs X d 205 278 [some (.ref vm_scr), some (.ref 0), some (.ref 95), some (.int (iI i))] [] s Q := by
  obtain ⟨z, s1, s2, hz, c1, c2, hR2⟩ := T_company (X := X) hR hK (x1 := (X.2 (i + 1).toNat).toInt) (x2 := (X.2 (i + 2).toNat).toInt) (rg_of _) (rg_of _)
  refine Gs_aload_n p205_278 rfl rfl ?_
  refine Gs_aload_n p205_279 rfl rfl ?_
  refine Gs_iload_n p205_280 rfl rfl ?_
  refine Gs_iconst p205_281 ?_
  refine Gs_iadd p205_282 ?_
  refine Gs_sld p205_283 (by omega) (by omega) (by omega) ?_
  refine Gs_aload_n p205_284 rfl rfl ?_
  refine Gs_iload_n p205_285 rfl rfl ?_
  refine Gs_iconst p205_286 ?_
  refine Gs_iadd p205_287 ?_
  refine Gs_sld p205_288 (by omega) (by omega) (by omega) ?_
  refine Gs_callV2I p205_289 (by rfl) (by rfl) (by first | rfl | assumption | exact (show isTale _ from by assumption).1 | exact (show isCamp _ _ from by assumption).1 | exact (show isRow _ _ from by assumption).1) (Nat.le_of_ble_eq_true rfl) (by decide) (c1) (by omega) ?_
  refine Gs_aload_n p205_292 rfl rfl ?_
  refine Gs_aload_n p205_293 rfl rfl ?_
  refine Gs_iload_n p205_294 rfl rfl ?_
  refine Gs_iconst p205_295 ?_
  refine Gs_iadd p205_296 ?_
  refine Gs_sld p205_297 (by omega) (by omega) (by omega) ?_
  refine Gs_aload_n p205_298 rfl rfl ?_
  refine Gs_iload_n p205_299 rfl rfl ?_
  refine Gs_iconst p205_300 ?_
  refine Gs_iadd p205_301 ?_
  refine Gs_sld p205_302 (by omega) (by omega) (by omega) ?_
  refine Gs_callV2I p205_303 (by rfl) (by rfl) (by first | rfl | assumption | exact (show isTale _ from by assumption).1 | exact (show isCamp _ _ from by assumption).1 | exact (show isRow _ _ from by assumption).1) (Nat.le_of_ble_eq_true rfl) (by decide) (c2) (by omega) ?_
  refine Gs_icmp_eq (tgt := 954) p205_306 (by rfl) hz hz (fun h306 => ?_) (fun h306 => absurd rfl ‹_›)
  refine Gs_iinc3 (b53 := none) p205_954 rfl ?_
  refine Gs_goto (tgt := 18) p205_957 (by rfl) ?_
  exact IH s2 hR2
set_option maxHeartbeats 2000000 in
set_option maxRecDepth 20000 in
theorem law_put {X : vX} {K i : Int} {s : St} {d : Nat} {Q : Option Value → St → Prop} (hX : (X.1 : Int) ≤ 2560) (hR : Rel K s) (hK : K < 512) (hd : 1000 ≤ d) (hi : 0 ≤ i) (hiL : i + 5 ≤ X.1) (IH : ∀ s2, Rel (K + 1) s2 → Gs X d 205 18 [some (.ref vm_scr), some (.ref 0), some (.ref 95), some (.int (iI (i + 5)))] [] s2 Q) :
    Gs X d 205 311 [some (.ref vm_scr), some (.ref 0), some (.ref 95), some (.int (iI i))] [] s Q := by
  obtain ⟨z, s1, s2, hz, c1, c2, hR2⟩ := T_put (X := X) hR hK (x1 := (X.2 (i + 1).toNat).toInt) (x2 := (X.2 (i + 2).toNat).toInt) (rg_of _) (rg_of _)
  refine Gs_aload_n p205_311 rfl rfl ?_
  refine Gs_aload_n p205_312 rfl rfl ?_
  refine Gs_iload_n p205_313 rfl rfl ?_
  refine Gs_iconst p205_314 ?_
  refine Gs_iadd p205_315 ?_
  refine Gs_sld p205_316 (by omega) (by omega) (by omega) ?_
  refine Gs_aload_n p205_317 rfl rfl ?_
  refine Gs_iload_n p205_318 rfl rfl ?_
  refine Gs_iconst p205_319 ?_
  refine Gs_iadd p205_320 ?_
  refine Gs_sld p205_321 (by omega) (by omega) (by omega) ?_
  refine Gs_callV2I p205_322 (by rfl) (by rfl) (by first | rfl | assumption | exact (show isTale _ from by assumption).1 | exact (show isCamp _ _ from by assumption).1 | exact (show isRow _ _ from by assumption).1) (Nat.le_of_ble_eq_true rfl) (by decide) (c1) (by omega) ?_
  refine Gs_aload_n p205_325 rfl rfl ?_
  refine Gs_aload_n p205_326 rfl rfl ?_
  refine Gs_iload_n p205_327 rfl rfl ?_
  refine Gs_iconst p205_328 ?_
  refine Gs_iadd p205_329 ?_
  refine Gs_sld p205_330 (by omega) (by omega) (by omega) ?_
  refine Gs_aload_n p205_331 rfl rfl ?_
  refine Gs_iload_n p205_332 rfl rfl ?_
  refine Gs_iconst p205_333 ?_
  refine Gs_iadd p205_334 ?_
  refine Gs_sld p205_335 (by omega) (by omega) (by omega) ?_
  refine Gs_callV2I p205_336 (by rfl) (by rfl) (by first | rfl | assumption | exact (show isTale _ from by assumption).1 | exact (show isCamp _ _ from by assumption).1 | exact (show isRow _ _ from by assumption).1) (Nat.le_of_ble_eq_true rfl) (by decide) (c2) (by omega) ?_
  refine Gs_icmp_eq (tgt := 954) p205_339 (by rfl) hz hz (fun h339 => ?_) (fun h339 => absurd rfl ‹_›)
  refine Gs_iinc3 (b53 := none) p205_954 rfl ?_
  refine Gs_goto (tgt := 18) p205_957 (by rfl) ?_
  exact IH s2 hR2
set_option maxHeartbeats 2000000 in
set_option maxRecDepth 20000 in
theorem law_pass {X : vX} {K i : Int} {s : St} {d : Nat} {Q : Option Value → St → Prop} (hX : (X.1 : Int) ≤ 2560) (hR : Rel K s) (hK : K < 512) (hd : 1000 ≤ d) (hi : 0 ≤ i) (hiL : i + 5 ≤ X.1) (IH : ∀ s2, Rel (K + 1) s2 → Gs X d 205 18 [some (.ref vm_scr), some (.ref 0), some (.ref 95), some (.int (iI (i + 5)))] [] s2 Q) :
    Gs X d 205 344 [some (.ref vm_scr), some (.ref 0), some (.ref 95), some (.int (iI i))] [] s Q := by
  obtain ⟨z, s1, s2, hz, c1, c2, hR2⟩ := T_pass (X := X) hR hK (x1 := (X.2 (i + 1).toNat).toInt) (rg_of _)
  refine Gs_aload_n p205_344 rfl rfl ?_
  refine Gs_aload_n p205_345 rfl rfl ?_
  refine Gs_iload_n p205_346 rfl rfl ?_
  refine Gs_iconst p205_347 ?_
  refine Gs_iadd p205_348 ?_
  refine Gs_sld p205_349 (by omega) (by omega) (by omega) ?_
  refine Gs_callV1I p205_350 (by rfl) (by rfl) (by first | rfl | assumption | exact (show isTale _ from by assumption).1 | exact (show isCamp _ _ from by assumption).1 | exact (show isRow _ _ from by assumption).1) (Nat.le_of_ble_eq_true rfl) (by decide) (c1) (by omega) ?_
  refine Gs_aload_n p205_353 rfl rfl ?_
  refine Gs_aload_n p205_354 rfl rfl ?_
  refine Gs_iload_n p205_355 rfl rfl ?_
  refine Gs_iconst p205_356 ?_
  refine Gs_iadd p205_357 ?_
  refine Gs_sld p205_358 (by omega) (by omega) (by omega) ?_
  refine Gs_callV1I p205_359 (by rfl) (by rfl) (by first | rfl | assumption | exact (show isTale _ from by assumption).1 | exact (show isCamp _ _ from by assumption).1 | exact (show isRow _ _ from by assumption).1) (Nat.le_of_ble_eq_true rfl) (by decide) (c2) (by omega) ?_
  refine Gs_icmp_eq (tgt := 954) p205_362 (by rfl) hz hz (fun h362 => ?_) (fun h362 => absurd rfl ‹_›)
  refine Gs_iinc3 (b53 := none) p205_954 rfl ?_
  refine Gs_goto (tgt := 18) p205_957 (by rfl) ?_
  exact IH s2 hR2
set_option maxHeartbeats 2000000 in
set_option maxRecDepth 20000 in
theorem law_light {X : vX} {K i : Int} {s : St} {d : Nat} {Q : Option Value → St → Prop} (hX : (X.1 : Int) ≤ 2560) (hR : Rel K s) (hK : K < 512) (hd : 1000 ≤ d) (hi : 0 ≤ i) (hiL : i + 5 ≤ X.1) (IH : ∀ s2, Rel (K + 1) s2 → Gs X d 205 18 [some (.ref vm_scr), some (.ref 0), some (.ref 95), some (.int (iI (i + 5)))] [] s2 Q) :
    Gs X d 205 367 [some (.ref vm_scr), some (.ref 0), some (.ref 95), some (.int (iI i))] [] s Q := by
  obtain ⟨z, s1, s2, hz, c1, c2, hR2⟩ := T_light (X := X) hR hK (x1 := (X.2 (i + 1).toNat).toInt) (x2 := (X.2 (i + 2).toNat).toInt) (rg_of _) (rg_of _)
  refine Gs_aload_n p205_367 rfl rfl ?_
  refine Gs_aload_n p205_368 rfl rfl ?_
  refine Gs_iload_n p205_369 rfl rfl ?_
  refine Gs_iconst p205_370 ?_
  refine Gs_iadd p205_371 ?_
  refine Gs_sld p205_372 (by omega) (by omega) (by omega) ?_
  refine Gs_aload_n p205_373 rfl rfl ?_
  refine Gs_iload_n p205_374 rfl rfl ?_
  refine Gs_iconst p205_375 ?_
  refine Gs_iadd p205_376 ?_
  refine Gs_sld p205_377 (by omega) (by omega) (by omega) ?_
  refine Gs_callV2I p205_378 (by rfl) (by rfl) (by first | rfl | assumption | exact (show isTale _ from by assumption).1 | exact (show isCamp _ _ from by assumption).1 | exact (show isRow _ _ from by assumption).1) (Nat.le_of_ble_eq_true rfl) (by decide) (c1) (by omega) ?_
  refine Gs_aload_n p205_381 rfl rfl ?_
  refine Gs_aload_n p205_382 rfl rfl ?_
  refine Gs_iload_n p205_383 rfl rfl ?_
  refine Gs_iconst p205_384 ?_
  refine Gs_iadd p205_385 ?_
  refine Gs_sld p205_386 (by omega) (by omega) (by omega) ?_
  refine Gs_aload_n p205_387 rfl rfl ?_
  refine Gs_iload_n p205_388 rfl rfl ?_
  refine Gs_iconst p205_389 ?_
  refine Gs_iadd p205_390 ?_
  refine Gs_sld p205_391 (by omega) (by omega) (by omega) ?_
  refine Gs_callV2I p205_392 (by rfl) (by rfl) (by first | rfl | assumption | exact (show isTale _ from by assumption).1 | exact (show isCamp _ _ from by assumption).1 | exact (show isRow _ _ from by assumption).1) (Nat.le_of_ble_eq_true rfl) (by decide) (c2) (by omega) ?_
  refine Gs_icmp_eq (tgt := 954) p205_395 (by rfl) hz hz (fun h395 => ?_) (fun h395 => absurd rfl ‹_›)
  refine Gs_iinc3 (b53 := none) p205_954 rfl ?_
  refine Gs_goto (tgt := 18) p205_957 (by rfl) ?_
  exact IH s2 hR2
set_option maxHeartbeats 2000000 in
set_option maxRecDepth 20000 in
theorem law_join {X : vX} {K i : Int} {s : St} {d : Nat} {Q : Option Value → St → Prop} (hX : (X.1 : Int) ≤ 2560) (hR : Rel K s) (hK : K < 512) (hd : 1000 ≤ d) (hi : 0 ≤ i) (hiL : i + 5 ≤ X.1) (IH : ∀ s2, Rel (K + 1) s2 → Gs X d 205 18 [some (.ref vm_scr), some (.ref 0), some (.ref 95), some (.int (iI (i + 5)))] [] s2 Q) :
    Gs X d 205 400 [some (.ref vm_scr), some (.ref 0), some (.ref 95), some (.int (iI i))] [] s Q := by
  obtain ⟨z, s1, s2, hz, c1, c2, hR2⟩ := T_join (X := X) hR hK (x1 := (X.2 (i + 1).toNat).toInt) (x2 := (X.2 (i + 2).toNat).toInt) (rg_of _) (rg_of _)
  refine Gs_aload_n p205_400 rfl rfl ?_
  refine Gs_aload_n p205_401 rfl rfl ?_
  refine Gs_iload_n p205_402 rfl rfl ?_
  refine Gs_iconst p205_403 ?_
  refine Gs_iadd p205_404 ?_
  refine Gs_sld p205_405 (by omega) (by omega) (by omega) ?_
  refine Gs_aload_n p205_406 rfl rfl ?_
  refine Gs_iload_n p205_407 rfl rfl ?_
  refine Gs_iconst p205_408 ?_
  refine Gs_iadd p205_409 ?_
  refine Gs_sld p205_410 (by omega) (by omega) (by omega) ?_
  refine Gs_callV2I p205_411 (by rfl) (by rfl) (by first | rfl | assumption | exact (show isTale _ from by assumption).1 | exact (show isCamp _ _ from by assumption).1 | exact (show isRow _ _ from by assumption).1) (Nat.le_of_ble_eq_true rfl) (by decide) (c1) (by omega) ?_
  refine Gs_aload_n p205_414 rfl rfl ?_
  refine Gs_aload_n p205_415 rfl rfl ?_
  refine Gs_iload_n p205_416 rfl rfl ?_
  refine Gs_iconst p205_417 ?_
  refine Gs_iadd p205_418 ?_
  refine Gs_sld p205_419 (by omega) (by omega) (by omega) ?_
  refine Gs_aload_n p205_420 rfl rfl ?_
  refine Gs_iload_n p205_421 rfl rfl ?_
  refine Gs_iconst p205_422 ?_
  refine Gs_iadd p205_423 ?_
  refine Gs_sld p205_424 (by omega) (by omega) (by omega) ?_
  refine Gs_callV2I p205_425 (by rfl) (by rfl) (by first | rfl | assumption | exact (show isTale _ from by assumption).1 | exact (show isCamp _ _ from by assumption).1 | exact (show isRow _ _ from by assumption).1) (Nat.le_of_ble_eq_true rfl) (by decide) (c2) (by omega) ?_
  refine Gs_icmp_eq (tgt := 954) p205_428 (by rfl) hz hz (fun h428 => ?_) (fun h428 => absurd rfl ‹_›)
  refine Gs_iinc3 (b53 := none) p205_954 rfl ?_
  refine Gs_goto (tgt := 18) p205_957 (by rfl) ?_
  exact IH s2 hR2
set_option maxHeartbeats 2000000 in
set_option maxRecDepth 20000 in
theorem law_hand {X : vX} {K i : Int} {s : St} {d : Nat} {Q : Option Value → St → Prop} (hX : (X.1 : Int) ≤ 2560) (hR : Rel K s) (hK : K < 512) (hd : 1000 ≤ d) (hi : 0 ≤ i) (hiL : i + 5 ≤ X.1) (IH : ∀ s2, Rel (K + 1) s2 → Gs X d 205 18 [some (.ref vm_scr), some (.ref 0), some (.ref 95), some (.int (iI (i + 5)))] [] s2 Q) :
    Gs X d 205 433 [some (.ref vm_scr), some (.ref 0), some (.ref 95), some (.int (iI i))] [] s Q := by
  obtain ⟨z, s1, s2, hz, c1, c2, hR2⟩ := T_hand (X := X) hR hK (x1 := (X.2 (i + 1).toNat).toInt) (x2 := (X.2 (i + 2).toNat).toInt) (x3 := (X.2 (i + 3).toNat).toInt) (rg_of _) (rg_of _) (rg_of _)
  refine Gs_aload_n p205_433 rfl rfl ?_
  refine Gs_aload_n p205_434 rfl rfl ?_
  refine Gs_iload_n p205_435 rfl rfl ?_
  refine Gs_iconst p205_436 ?_
  refine Gs_iadd p205_437 ?_
  refine Gs_sld p205_438 (by omega) (by omega) (by omega) ?_
  refine Gs_aload_n p205_439 rfl rfl ?_
  refine Gs_iload_n p205_440 rfl rfl ?_
  refine Gs_iconst p205_441 ?_
  refine Gs_iadd p205_442 ?_
  refine Gs_sld p205_443 (by omega) (by omega) (by omega) ?_
  refine Gs_aload_n p205_444 rfl rfl ?_
  refine Gs_iload_n p205_445 rfl rfl ?_
  refine Gs_iconst p205_446 ?_
  refine Gs_iadd p205_447 ?_
  refine Gs_sld p205_448 (by omega) (by omega) (by omega) ?_
  refine Gs_callV3I p205_449 (by rfl) (by rfl) (by first | rfl | assumption | exact (show isTale _ from by assumption).1 | exact (show isCamp _ _ from by assumption).1 | exact (show isRow _ _ from by assumption).1) (Nat.le_of_ble_eq_true rfl) (by decide) (c1) (by omega) ?_
  refine Gs_aload_n p205_452 rfl rfl ?_
  refine Gs_aload_n p205_453 rfl rfl ?_
  refine Gs_iload_n p205_454 rfl rfl ?_
  refine Gs_iconst p205_455 ?_
  refine Gs_iadd p205_456 ?_
  refine Gs_sld p205_457 (by omega) (by omega) (by omega) ?_
  refine Gs_aload_n p205_458 rfl rfl ?_
  refine Gs_iload_n p205_459 rfl rfl ?_
  refine Gs_iconst p205_460 ?_
  refine Gs_iadd p205_461 ?_
  refine Gs_sld p205_462 (by omega) (by omega) (by omega) ?_
  refine Gs_aload_n p205_463 rfl rfl ?_
  refine Gs_iload_n p205_464 rfl rfl ?_
  refine Gs_iconst p205_465 ?_
  refine Gs_iadd p205_466 ?_
  refine Gs_sld p205_467 (by omega) (by omega) (by omega) ?_
  refine Gs_callV3I p205_468 (by rfl) (by rfl) (by first | rfl | assumption | exact (show isTale _ from by assumption).1 | exact (show isCamp _ _ from by assumption).1 | exact (show isRow _ _ from by assumption).1) (Nat.le_of_ble_eq_true rfl) (by decide) (c2) (by omega) ?_
  refine Gs_icmp_eq (tgt := 954) p205_471 (by rfl) hz hz (fun h471 => ?_) (fun h471 => absurd rfl ‹_›)
  refine Gs_iinc3 (b53 := none) p205_954 rfl ?_
  refine Gs_goto (tgt := 18) p205_957 (by rfl) ?_
  exact IH s2 hR2
set_option maxHeartbeats 2000000 in
set_option maxRecDepth 20000 in
theorem law_undo {X : vX} {K i : Int} {s : St} {d : Nat} {Q : Option Value → St → Prop} (hX : (X.1 : Int) ≤ 2560) (hR : Rel K s) (hK : K < 512) (hd : 1000 ≤ d) (hi : 0 ≤ i) (hiL : i + 5 ≤ X.1) (IH : ∀ s2, Rel (K + 1) s2 → Gs X d 205 18 [some (.ref vm_scr), some (.ref 0), some (.ref 95), some (.int (iI (i + 5)))] [] s2 Q) :
    Gs X d 205 476 [some (.ref vm_scr), some (.ref 0), some (.ref 95), some (.int (iI i))] [] s Q := by
  obtain ⟨z, s1, s2, hz, c1, c2, hR2⟩ := T_undo (X := X) hR hK  
  refine Gs_aload_n p205_476 rfl rfl ?_
  refine Gs_callV0I p205_477 (by rfl) (by rfl) (by first | rfl | assumption | exact (show isTale _ from by assumption).1 | exact (show isCamp _ _ from by assumption).1 | exact (show isRow _ _ from by assumption).1) (Nat.le_of_ble_eq_true rfl) (by decide) (c1) (by omega) ?_
  refine Gs_aload_n p205_480 rfl rfl ?_
  refine Gs_callV0I p205_481 (by rfl) (by rfl) (by first | rfl | assumption | exact (show isTale _ from by assumption).1 | exact (show isCamp _ _ from by assumption).1 | exact (show isRow _ _ from by assumption).1) (Nat.le_of_ble_eq_true rfl) (by decide) (c2) (by omega) ?_
  refine Gs_icmp_eq (tgt := 954) p205_484 (by rfl) hz hz (fun h484 => ?_) (fun h484 => absurd rfl ‹_›)
  refine Gs_iinc3 (b53 := none) p205_954 rfl ?_
  refine Gs_goto (tgt := 18) p205_957 (by rfl) ?_
  exact IH s2 hR2
set_option maxHeartbeats 2000000 in
set_option maxRecDepth 20000 in
theorem law_lasts {X : vX} {K i : Int} {s : St} {d : Nat} {Q : Option Value → St → Prop} (hX : (X.1 : Int) ≤ 2560) (hR : Rel K s) (hK : K < 512) (hd : 1000 ≤ d) (hi : 0 ≤ i) (hiL : i + 5 ≤ X.1) (IH : ∀ s2, Rel (K + 1) s2 → Gs X d 205 18 [some (.ref vm_scr), some (.ref 0), some (.ref 95), some (.int (iI (i + 5)))] [] s2 Q) :
    Gs X d 205 489 [some (.ref vm_scr), some (.ref 0), some (.ref 95), some (.int (iI i))] [] s Q := by
  obtain ⟨z, s1, s2, hz, c1, c2, hR2⟩ := T_lasts (X := X) hR hK (x1 := (X.2 (i + 1).toNat).toInt) (rg_of _)
  refine Gs_aload_n p205_489 rfl rfl ?_
  refine Gs_aload_n p205_490 rfl rfl ?_
  refine Gs_iload_n p205_491 rfl rfl ?_
  refine Gs_iconst p205_492 ?_
  refine Gs_iadd p205_493 ?_
  refine Gs_sld p205_494 (by omega) (by omega) (by omega) ?_
  refine Gs_callV1I p205_495 (by rfl) (by rfl) (by first | rfl | assumption | exact (show isTale _ from by assumption).1 | exact (show isCamp _ _ from by assumption).1 | exact (show isRow _ _ from by assumption).1) (Nat.le_of_ble_eq_true rfl) (by decide) (c1) (by omega) ?_
  refine Gs_aload_n p205_498 rfl rfl ?_
  refine Gs_aload_n p205_499 rfl rfl ?_
  refine Gs_iload_n p205_500 rfl rfl ?_
  refine Gs_iconst p205_501 ?_
  refine Gs_iadd p205_502 ?_
  refine Gs_sld p205_503 (by omega) (by omega) (by omega) ?_
  refine Gs_callV1I p205_504 (by rfl) (by rfl) (by first | rfl | assumption | exact (show isTale _ from by assumption).1 | exact (show isCamp _ _ from by assumption).1 | exact (show isRow _ _ from by assumption).1) (Nat.le_of_ble_eq_true rfl) (by decide) (c2) (by omega) ?_
  refine Gs_icmp_eq (tgt := 954) p205_507 (by rfl) hz hz (fun h507 => ?_) (fun h507 => absurd rfl ‹_›)
  refine Gs_iinc3 (b53 := none) p205_954 rfl ?_
  refine Gs_goto (tgt := 18) p205_957 (by rfl) ?_
  exact IH s2 hR2
set_option maxHeartbeats 2000000 in
set_option maxRecDepth 20000 in
theorem law_stays {X : vX} {K i : Int} {s : St} {d : Nat} {Q : Option Value → St → Prop} (hX : (X.1 : Int) ≤ 2560) (hR : Rel K s) (hK : K < 512) (hd : 1000 ≤ d) (hi : 0 ≤ i) (hiL : i + 5 ≤ X.1) (IH : ∀ s2, Rel (K + 1) s2 → Gs X d 205 18 [some (.ref vm_scr), some (.ref 0), some (.ref 95), some (.int (iI (i + 5)))] [] s2 Q) :
    Gs X d 205 512 [some (.ref vm_scr), some (.ref 0), some (.ref 95), some (.int (iI i))] [] s Q := by
  obtain ⟨z, s1, s2, hz, c1, c2, hR2⟩ := T_stays (X := X) hR hK (x1 := (X.2 (i + 1).toNat).toInt) (x2 := (X.2 (i + 2).toNat).toInt) (x3 := (X.2 (i + 3).toNat).toInt) (rg_of _) (rg_of _) (rg_of _)
  refine Gs_aload_n p205_512 rfl rfl ?_
  refine Gs_aload_n p205_513 rfl rfl ?_
  refine Gs_iload_n p205_514 rfl rfl ?_
  refine Gs_iconst p205_515 ?_
  refine Gs_iadd p205_516 ?_
  refine Gs_sld p205_517 (by omega) (by omega) (by omega) ?_
  refine Gs_aload_n p205_518 rfl rfl ?_
  refine Gs_iload_n p205_519 rfl rfl ?_
  refine Gs_iconst p205_520 ?_
  refine Gs_iadd p205_521 ?_
  refine Gs_sld p205_522 (by omega) (by omega) (by omega) ?_
  refine Gs_aload_n p205_523 rfl rfl ?_
  refine Gs_iload_n p205_524 rfl rfl ?_
  refine Gs_iconst p205_525 ?_
  refine Gs_iadd p205_526 ?_
  refine Gs_sld p205_527 (by omega) (by omega) (by omega) ?_
  refine Gs_callV3I p205_528 (by rfl) (by rfl) (by first | rfl | assumption | exact (show isTale _ from by assumption).1 | exact (show isCamp _ _ from by assumption).1 | exact (show isRow _ _ from by assumption).1) (Nat.le_of_ble_eq_true rfl) (by decide) (c1) (by omega) ?_
  refine Gs_aload_n p205_531 rfl rfl ?_
  refine Gs_aload_n p205_532 rfl rfl ?_
  refine Gs_iload_n p205_533 rfl rfl ?_
  refine Gs_iconst p205_534 ?_
  refine Gs_iadd p205_535 ?_
  refine Gs_sld p205_536 (by omega) (by omega) (by omega) ?_
  refine Gs_aload_n p205_537 rfl rfl ?_
  refine Gs_iload_n p205_538 rfl rfl ?_
  refine Gs_iconst p205_539 ?_
  refine Gs_iadd p205_540 ?_
  refine Gs_sld p205_541 (by omega) (by omega) (by omega) ?_
  refine Gs_aload_n p205_542 rfl rfl ?_
  refine Gs_iload_n p205_543 rfl rfl ?_
  refine Gs_iconst p205_544 ?_
  refine Gs_iadd p205_545 ?_
  refine Gs_sld p205_546 (by omega) (by omega) (by omega) ?_
  refine Gs_callV3I p205_547 (by rfl) (by rfl) (by first | rfl | assumption | exact (show isTale _ from by assumption).1 | exact (show isCamp _ _ from by assumption).1 | exact (show isRow _ _ from by assumption).1) (Nat.le_of_ble_eq_true rfl) (by decide) (c2) (by omega) ?_
  refine Gs_icmp_eq (tgt := 954) p205_550 (by rfl) hz hz (fun h550 => ?_) (fun h550 => absurd rfl ‹_›)
  refine Gs_iinc3 (b53 := none) p205_954 rfl ?_
  refine Gs_goto (tgt := 18) p205_957 (by rfl) ?_
  exact IH s2 hR2
set_option maxHeartbeats 2000000 in
set_option maxRecDepth 20000 in
theorem law_tell {X : vX} {K i : Int} {s : St} {d : Nat} {Q : Option Value → St → Prop} (hX : (X.1 : Int) ≤ 2560) (hR : Rel K s) (hK : K < 512) (hd : 1000 ≤ d) (hi : 0 ≤ i) (hiL : i + 5 ≤ X.1) (IH : ∀ s2, Rel (K + 1) s2 → Gs X d 205 18 [some (.ref vm_scr), some (.ref 0), some (.ref 95), some (.int (iI (i + 5)))] [] s2 Q) :
    Gs X d 205 555 [some (.ref vm_scr), some (.ref 0), some (.ref 95), some (.int (iI i))] [] s Q := by
  obtain ⟨z, s1, s2, hz, c1, c2, hR2⟩ := T_tell (X := X) hR hK (x1 := (X.2 (i + 1).toNat).toInt) (x2 := (X.2 (i + 2).toNat).toInt) (x3 := (X.2 (i + 3).toNat).toInt) (rg_of _) (rg_of _) (rg_of _)
  refine Gs_aload_n p205_555 rfl rfl ?_
  refine Gs_aload_n p205_556 rfl rfl ?_
  refine Gs_iload_n p205_557 rfl rfl ?_
  refine Gs_iconst p205_558 ?_
  refine Gs_iadd p205_559 ?_
  refine Gs_sld p205_560 (by omega) (by omega) (by omega) ?_
  refine Gs_aload_n p205_561 rfl rfl ?_
  refine Gs_iload_n p205_562 rfl rfl ?_
  refine Gs_iconst p205_563 ?_
  refine Gs_iadd p205_564 ?_
  refine Gs_sld p205_565 (by omega) (by omega) (by omega) ?_
  refine Gs_aload_n p205_566 rfl rfl ?_
  refine Gs_iload_n p205_567 rfl rfl ?_
  refine Gs_iconst p205_568 ?_
  refine Gs_iadd p205_569 ?_
  refine Gs_sld p205_570 (by omega) (by omega) (by omega) ?_
  refine Gs_callV3I p205_571 (by rfl) (by rfl) (by first | rfl | assumption | exact (show isTale _ from by assumption).1 | exact (show isCamp _ _ from by assumption).1 | exact (show isRow _ _ from by assumption).1) (Nat.le_of_ble_eq_true rfl) (by decide) (c1) (by omega) ?_
  refine Gs_aload_n p205_574 rfl rfl ?_
  refine Gs_aload_n p205_575 rfl rfl ?_
  refine Gs_iload_n p205_576 rfl rfl ?_
  refine Gs_iconst p205_577 ?_
  refine Gs_iadd p205_578 ?_
  refine Gs_sld p205_579 (by omega) (by omega) (by omega) ?_
  refine Gs_aload_n p205_580 rfl rfl ?_
  refine Gs_iload_n p205_581 rfl rfl ?_
  refine Gs_iconst p205_582 ?_
  refine Gs_iadd p205_583 ?_
  refine Gs_sld p205_584 (by omega) (by omega) (by omega) ?_
  refine Gs_aload_n p205_585 rfl rfl ?_
  refine Gs_iload_n p205_586 rfl rfl ?_
  refine Gs_iconst p205_587 ?_
  refine Gs_iadd p205_588 ?_
  refine Gs_sld p205_589 (by omega) (by omega) (by omega) ?_
  refine Gs_callV3I p205_590 (by rfl) (by rfl) (by first | rfl | assumption | exact (show isTale _ from by assumption).1 | exact (show isCamp _ _ from by assumption).1 | exact (show isRow _ _ from by assumption).1) (Nat.le_of_ble_eq_true rfl) (by decide) (c2) (by omega) ?_
  refine Gs_icmp_eq (tgt := 954) p205_593 (by rfl) hz hz (fun h593 => ?_) (fun h593 => absurd rfl ‹_›)
  refine Gs_iinc3 (b53 := none) p205_954 rfl ?_
  refine Gs_goto (tgt := 18) p205_957 (by rfl) ?_
  exact IH s2 hR2
set_option maxHeartbeats 2000000 in
set_option maxRecDepth 20000 in
theorem law_meet {X : vX} {K i : Int} {s : St} {d : Nat} {Q : Option Value → St → Prop} (hX : (X.1 : Int) ≤ 2560) (hR : Rel K s) (hK : K < 512) (hd : 1000 ≤ d) (hi : 0 ≤ i) (hiL : i + 5 ≤ X.1) (IH : ∀ s2, Rel (K + 1) s2 → Gs X d 205 18 [some (.ref vm_scr), some (.ref 0), some (.ref 95), some (.int (iI (i + 5)))] [] s2 Q) :
    Gs X d 205 598 [some (.ref vm_scr), some (.ref 0), some (.ref 95), some (.int (iI i))] [] s Q := by
  obtain ⟨z, s1, s2, hz, c1, c2, hR2⟩ := T_meet (X := X) hR hK (x1 := (X.2 (i + 1).toNat).toInt) (x2 := (X.2 (i + 2).toNat).toInt) (x3 := (X.2 (i + 3).toNat).toInt) (rg_of _) (rg_of _) (rg_of _)
  refine Gs_aload_n p205_598 rfl rfl ?_
  refine Gs_aload_n p205_599 rfl rfl ?_
  refine Gs_iload_n p205_600 rfl rfl ?_
  refine Gs_iconst p205_601 ?_
  refine Gs_iadd p205_602 ?_
  refine Gs_sld p205_603 (by omega) (by omega) (by omega) ?_
  refine Gs_aload_n p205_604 rfl rfl ?_
  refine Gs_iload_n p205_605 rfl rfl ?_
  refine Gs_iconst p205_606 ?_
  refine Gs_iadd p205_607 ?_
  refine Gs_sld p205_608 (by omega) (by omega) (by omega) ?_
  refine Gs_aload_n p205_609 rfl rfl ?_
  refine Gs_iload_n p205_610 rfl rfl ?_
  refine Gs_iconst p205_611 ?_
  refine Gs_iadd p205_612 ?_
  refine Gs_sld p205_613 (by omega) (by omega) (by omega) ?_
  refine Gs_callV3I p205_614 (by rfl) (by rfl) (by first | rfl | assumption | exact (show isTale _ from by assumption).1 | exact (show isCamp _ _ from by assumption).1 | exact (show isRow _ _ from by assumption).1) (Nat.le_of_ble_eq_true rfl) (by decide) (c1) (by omega) ?_
  refine Gs_aload_n p205_617 rfl rfl ?_
  refine Gs_aload_n p205_618 rfl rfl ?_
  refine Gs_iload_n p205_619 rfl rfl ?_
  refine Gs_iconst p205_620 ?_
  refine Gs_iadd p205_621 ?_
  refine Gs_sld p205_622 (by omega) (by omega) (by omega) ?_
  refine Gs_aload_n p205_623 rfl rfl ?_
  refine Gs_iload_n p205_624 rfl rfl ?_
  refine Gs_iconst p205_625 ?_
  refine Gs_iadd p205_626 ?_
  refine Gs_sld p205_627 (by omega) (by omega) (by omega) ?_
  refine Gs_aload_n p205_628 rfl rfl ?_
  refine Gs_iload_n p205_629 rfl rfl ?_
  refine Gs_iconst p205_630 ?_
  refine Gs_iadd p205_631 ?_
  refine Gs_sld p205_632 (by omega) (by omega) (by omega) ?_
  refine Gs_callV3I p205_633 (by rfl) (by rfl) (by first | rfl | assumption | exact (show isTale _ from by assumption).1 | exact (show isCamp _ _ from by assumption).1 | exact (show isRow _ _ from by assumption).1) (Nat.le_of_ble_eq_true rfl) (by decide) (c2) (by omega) ?_
  refine Gs_icmp_eq (tgt := 954) p205_636 (by rfl) hz hz (fun h636 => ?_) (fun h636 => absurd rfl ‹_›)
  refine Gs_iinc3 (b53 := none) p205_954 rfl ?_
  refine Gs_goto (tgt := 18) p205_957 (by rfl) ?_
  exact IH s2 hR2
set_option maxHeartbeats 2000000 in
set_option maxRecDepth 20000 in
theorem law_can {X : vX} {K i : Int} {s : St} {d : Nat} {Q : Option Value → St → Prop} (hX : (X.1 : Int) ≤ 2560) (hR : Rel K s) (hK : K < 512) (hd : 1000 ≤ d) (hi : 0 ≤ i) (hiL : i + 5 ≤ X.1) (IH : ∀ s2, Rel (K + 1) s2 → Gs X d 205 18 [some (.ref vm_scr), some (.ref 0), some (.ref 95), some (.int (iI (i + 5)))] [] s2 Q) :
    Gs X d 205 641 [some (.ref vm_scr), some (.ref 0), some (.ref 95), some (.int (iI i))] [] s Q := by
  obtain ⟨z, s1, s2, hz, c1, c2, hR2⟩ := T_can (X := X) hR hK (x1 := (X.2 (i + 1).toNat).toInt) (rg_of _)
  refine Gs_aload_n p205_641 rfl rfl ?_
  refine Gs_aload_n p205_642 rfl rfl ?_
  refine Gs_iload_n p205_643 rfl rfl ?_
  refine Gs_iconst p205_644 ?_
  refine Gs_iadd p205_645 ?_
  refine Gs_sld p205_646 (by omega) (by omega) (by omega) ?_
  refine Gs_callV1I p205_647 (by rfl) (by rfl) (by first | rfl | assumption | exact (show isTale _ from by assumption).1 | exact (show isCamp _ _ from by assumption).1 | exact (show isRow _ _ from by assumption).1) (Nat.le_of_ble_eq_true rfl) (by decide) (c1) (by omega) ?_
  refine Gs_aload_n p205_650 rfl rfl ?_
  refine Gs_aload_n p205_651 rfl rfl ?_
  refine Gs_iload_n p205_652 rfl rfl ?_
  refine Gs_iconst p205_653 ?_
  refine Gs_iadd p205_654 ?_
  refine Gs_sld p205_655 (by omega) (by omega) (by omega) ?_
  refine Gs_callV1I p205_656 (by rfl) (by rfl) (by first | rfl | assumption | exact (show isTale _ from by assumption).1 | exact (show isCamp _ _ from by assumption).1 | exact (show isRow _ _ from by assumption).1) (Nat.le_of_ble_eq_true rfl) (by decide) (c2) (by omega) ?_
  refine Gs_icmp_eq (tgt := 954) p205_659 (by rfl) hz hz (fun h659 => ?_) (fun h659 => absurd rfl ‹_›)
  refine Gs_iinc3 (b53 := none) p205_954 rfl ?_
  refine Gs_goto (tgt := 18) p205_957 (by rfl) ?_
  exact IH s2 hR2
set_option maxHeartbeats 2000000 in
set_option maxRecDepth 20000 in
theorem law_give {X : vX} {K i : Int} {s : St} {d : Nat} {Q : Option Value → St → Prop} (hX : (X.1 : Int) ≤ 2560) (hR : Rel K s) (hK : K < 512) (hd : 1000 ≤ d) (hi : 0 ≤ i) (hiL : i + 5 ≤ X.1) (IH : ∀ s2, Rel (K + 1) s2 → Gs X d 205 18 [some (.ref vm_scr), some (.ref 0), some (.ref 95), some (.int (iI (i + 5)))] [] s2 Q) :
    Gs X d 205 664 [some (.ref vm_scr), some (.ref 0), some (.ref 95), some (.int (iI i))] [] s Q := by
  obtain ⟨z, s1, s2, hz, c1, c2, hR2⟩ := T_give (X := X) hR hK (x1 := (X.2 (i + 1).toNat).toInt) (x2 := (X.2 (i + 2).toNat).toInt) (x3 := (X.2 (i + 3).toNat).toInt) (rg_of _) (rg_of _) (rg_of _)
  refine Gs_aload_n p205_664 rfl rfl ?_
  refine Gs_aload_n p205_665 rfl rfl ?_
  refine Gs_iload_n p205_666 rfl rfl ?_
  refine Gs_iconst p205_667 ?_
  refine Gs_iadd p205_668 ?_
  refine Gs_sld p205_669 (by omega) (by omega) (by omega) ?_
  refine Gs_aload_n p205_670 rfl rfl ?_
  refine Gs_iload_n p205_671 rfl rfl ?_
  refine Gs_iconst p205_672 ?_
  refine Gs_iadd p205_673 ?_
  refine Gs_sld p205_674 (by omega) (by omega) (by omega) ?_
  refine Gs_aload_n p205_675 rfl rfl ?_
  refine Gs_iload_n p205_676 rfl rfl ?_
  refine Gs_iconst p205_677 ?_
  refine Gs_iadd p205_678 ?_
  refine Gs_sld p205_679 (by omega) (by omega) (by omega) ?_
  refine Gs_callV3I p205_680 (by rfl) (by rfl) (by first | rfl | assumption | exact (show isTale _ from by assumption).1 | exact (show isCamp _ _ from by assumption).1 | exact (show isRow _ _ from by assumption).1) (Nat.le_of_ble_eq_true rfl) (by decide) (c1) (by omega) ?_
  refine Gs_aload_n p205_683 rfl rfl ?_
  refine Gs_aload_n p205_684 rfl rfl ?_
  refine Gs_iload_n p205_685 rfl rfl ?_
  refine Gs_iconst p205_686 ?_
  refine Gs_iadd p205_687 ?_
  refine Gs_sld p205_688 (by omega) (by omega) (by omega) ?_
  refine Gs_aload_n p205_689 rfl rfl ?_
  refine Gs_iload_n p205_690 rfl rfl ?_
  refine Gs_iconst p205_691 ?_
  refine Gs_iadd p205_692 ?_
  refine Gs_sld p205_693 (by omega) (by omega) (by omega) ?_
  refine Gs_aload_n p205_694 rfl rfl ?_
  refine Gs_iload_n p205_695 rfl rfl ?_
  refine Gs_iconst p205_696 ?_
  refine Gs_iadd p205_697 ?_
  refine Gs_sld p205_698 (by omega) (by omega) (by omega) ?_
  refine Gs_callV3I p205_699 (by rfl) (by rfl) (by first | rfl | assumption | exact (show isTale _ from by assumption).1 | exact (show isCamp _ _ from by assumption).1 | exact (show isRow _ _ from by assumption).1) (Nat.le_of_ble_eq_true rfl) (by decide) (c2) (by omega) ?_
  refine Gs_icmp_eq (tgt := 954) p205_702 (by rfl) hz hz (fun h702 => ?_) (fun h702 => absurd rfl ‹_›)
  refine Gs_iinc3 (b53 := none) p205_954 rfl ?_
  refine Gs_goto (tgt := 18) p205_957 (by rfl) ?_
  exact IH s2 hR2
set_option maxHeartbeats 2000000 in
set_option maxRecDepth 20000 in
theorem law_see {X : vX} {K i : Int} {s : St} {d : Nat} {Q : Option Value → St → Prop} (hX : (X.1 : Int) ≤ 2560) (hR : Rel K s) (hK : K < 512) (hd : 1000 ≤ d) (hi : 0 ≤ i) (hiL : i + 5 ≤ X.1) (IH : ∀ s2, Rel (K + 1) s2 → Gs X d 205 18 [some (.ref vm_scr), some (.ref 0), some (.ref 95), some (.int (iI (i + 5)))] [] s2 Q) :
    Gs X d 205 707 [some (.ref vm_scr), some (.ref 0), some (.ref 95), some (.int (iI i))] [] s Q := by
  obtain ⟨z, s1, s2, hz, c1, c2, hR2⟩ := T_see (X := X) hR hK (x1 := (X.2 (i + 1).toNat).toInt) (rg_of _)
  refine Gs_aload_n p205_707 rfl rfl ?_
  refine Gs_aload_n p205_708 rfl rfl ?_
  refine Gs_iload_n p205_709 rfl rfl ?_
  refine Gs_iconst p205_710 ?_
  refine Gs_iadd p205_711 ?_
  refine Gs_sld p205_712 (by omega) (by omega) (by omega) ?_
  refine Gs_callV1I p205_713 (by rfl) (by rfl) (by first | rfl | assumption | exact (show isTale _ from by assumption).1 | exact (show isCamp _ _ from by assumption).1 | exact (show isRow _ _ from by assumption).1) (Nat.le_of_ble_eq_true rfl) (by decide) (c1) (by omega) ?_
  refine Gs_aload_n p205_716 rfl rfl ?_
  refine Gs_aload_n p205_717 rfl rfl ?_
  refine Gs_iload_n p205_718 rfl rfl ?_
  refine Gs_iconst p205_719 ?_
  refine Gs_iadd p205_720 ?_
  refine Gs_sld p205_721 (by omega) (by omega) (by omega) ?_
  refine Gs_callV1I p205_722 (by rfl) (by rfl) (by first | rfl | assumption | exact (show isTale _ from by assumption).1 | exact (show isCamp _ _ from by assumption).1 | exact (show isRow _ _ from by assumption).1) (Nat.le_of_ble_eq_true rfl) (by decide) (c2) (by omega) ?_
  refine Gs_icmp_eq (tgt := 954) p205_725 (by rfl) hz hz (fun h725 => ?_) (fun h725 => absurd rfl ‹_›)
  refine Gs_iinc3 (b53 := none) p205_954 rfl ?_
  refine Gs_goto (tgt := 18) p205_957 (by rfl) ?_
  exact IH s2 hR2
set_option maxHeartbeats 2000000 in
set_option maxRecDepth 20000 in
theorem law_forget {X : vX} {K i : Int} {s : St} {d : Nat} {Q : Option Value → St → Prop} (hX : (X.1 : Int) ≤ 2560) (hR : Rel K s) (hK : K < 512) (hd : 1000 ≤ d) (hi : 0 ≤ i) (hiL : i + 5 ≤ X.1) (IH : ∀ s2, Rel (K + 1) s2 → Gs X d 205 18 [some (.ref vm_scr), some (.ref 0), some (.ref 95), some (.int (iI (i + 5)))] [] s2 Q) :
    Gs X d 205 730 [some (.ref vm_scr), some (.ref 0), some (.ref 95), some (.int (iI i))] [] s Q := by
  obtain ⟨z, s1, s2, hz, c1, c2, hR2⟩ := T_forget (X := X) hR hK  
  refine Gs_aload_n p205_730 rfl rfl ?_
  refine Gs_callV0I p205_731 (by rfl) (by rfl) (by first | rfl | assumption | exact (show isTale _ from by assumption).1 | exact (show isCamp _ _ from by assumption).1 | exact (show isRow _ _ from by assumption).1) (Nat.le_of_ble_eq_true rfl) (by decide) (c1) (by omega) ?_
  refine Gs_aload_n p205_734 rfl rfl ?_
  refine Gs_callV0I p205_735 (by rfl) (by rfl) (by first | rfl | assumption | exact (show isTale _ from by assumption).1 | exact (show isCamp _ _ from by assumption).1 | exact (show isRow _ _ from by assumption).1) (Nat.le_of_ble_eq_true rfl) (by decide) (c2) (by omega) ?_
  refine Gs_icmp_eq (tgt := 954) p205_738 (by rfl) hz hz (fun h738 => ?_) (fun h738 => absurd rfl ‹_›)
  refine Gs_iinc3 (b53 := none) p205_954 rfl ?_
  refine Gs_goto (tgt := 18) p205_957 (by rfl) ?_
  exact IH s2 hR2
set_option maxHeartbeats 2000000 in
set_option maxRecDepth 20000 in
theorem law_from {X : vX} {K i : Int} {s : St} {d : Nat} {Q : Option Value → St → Prop} (hX : (X.1 : Int) ≤ 2560) (hR : Rel K s) (hK : K < 512) (hd : 1000 ≤ d) (hi : 0 ≤ i) (hiL : i + 5 ≤ X.1) (IH : ∀ s2, Rel (K + 1) s2 → Gs X d 205 18 [some (.ref vm_scr), some (.ref 0), some (.ref 95), some (.int (iI (i + 5)))] [] s2 Q) :
    Gs X d 205 743 [some (.ref vm_scr), some (.ref 0), some (.ref 95), some (.int (iI i))] [] s Q := by
  obtain ⟨z, s1, s2, hz, c1, c2, hR2⟩ := T_from (X := X) hR hK (x1 := (X.2 (i + 1).toNat).toInt) (rg_of _)
  refine Gs_aload_n p205_743 rfl rfl ?_
  refine Gs_aload_n p205_744 rfl rfl ?_
  refine Gs_iload_n p205_745 rfl rfl ?_
  refine Gs_iconst p205_746 ?_
  refine Gs_iadd p205_747 ?_
  refine Gs_sld p205_748 (by omega) (by omega) (by omega) ?_
  refine Gs_callV1I p205_749 (by rfl) (by rfl) (by first | rfl | assumption | exact (show isTale _ from by assumption).1 | exact (show isCamp _ _ from by assumption).1 | exact (show isRow _ _ from by assumption).1) (Nat.le_of_ble_eq_true rfl) (by decide) (c1) (by omega) ?_
  refine Gs_aload_n p205_752 rfl rfl ?_
  refine Gs_aload_n p205_753 rfl rfl ?_
  refine Gs_iload_n p205_754 rfl rfl ?_
  refine Gs_iconst p205_755 ?_
  refine Gs_iadd p205_756 ?_
  refine Gs_sld p205_757 (by omega) (by omega) (by omega) ?_
  refine Gs_callV1I p205_758 (by rfl) (by rfl) (by first | rfl | assumption | exact (show isTale _ from by assumption).1 | exact (show isCamp _ _ from by assumption).1 | exact (show isRow _ _ from by assumption).1) (Nat.le_of_ble_eq_true rfl) (by decide) (c2) (by omega) ?_
  refine Gs_icmp_eq (tgt := 954) p205_761 (by rfl) hz hz (fun h761 => ?_) (fun h761 => absurd rfl ‹_›)
  refine Gs_iinc3 (b53 := none) p205_954 rfl ?_
  refine Gs_goto (tgt := 18) p205_957 (by rfl) ?_
  exact IH s2 hR2
set_option maxHeartbeats 2000000 in
set_option maxRecDepth 20000 in
theorem law_rows {X : vX} {K i : Int} {s : St} {d : Nat} {Q : Option Value → St → Prop} (hX : (X.1 : Int) ≤ 2560) (hR : Rel K s) (hK : K < 512) (hd : 1000 ≤ d) (hi : 0 ≤ i) (hiL : i + 5 ≤ X.1) (IH : ∀ s2, Rel (K + 1) s2 → Gs X d 205 18 [some (.ref vm_scr), some (.ref 0), some (.ref 95), some (.int (iI (i + 5)))] [] s2 Q) :
    Gs X d 205 766 [some (.ref vm_scr), some (.ref 0), some (.ref 95), some (.int (iI i))] [] s Q := by
  obtain ⟨z, s1, s2, hz, c1, c2, hR2⟩ := T_rows (X := X) hR hK (x1 := (X.2 (i + 1).toNat).toInt) (x2 := (X.2 (i + 2).toNat).toInt) (x3 := (X.2 (i + 3).toNat).toInt) (rg_of _) (rg_of _) (rg_of _)
  refine Gs_aload_n p205_766 rfl rfl ?_
  refine Gs_aload_n p205_767 rfl rfl ?_
  refine Gs_iload_n p205_768 rfl rfl ?_
  refine Gs_iconst p205_769 ?_
  refine Gs_iadd p205_770 ?_
  refine Gs_sld p205_771 (by omega) (by omega) (by omega) ?_
  refine Gs_aload_n p205_772 rfl rfl ?_
  refine Gs_iload_n p205_773 rfl rfl ?_
  refine Gs_iconst p205_774 ?_
  refine Gs_iadd p205_775 ?_
  refine Gs_sld p205_776 (by omega) (by omega) (by omega) ?_
  refine Gs_aload_n p205_777 rfl rfl ?_
  refine Gs_iload_n p205_778 rfl rfl ?_
  refine Gs_iconst p205_779 ?_
  refine Gs_iadd p205_780 ?_
  refine Gs_sld p205_781 (by omega) (by omega) (by omega) ?_
  refine Gs_callV3I p205_782 (by rfl) (by rfl) (by first | rfl | assumption | exact (show isTale _ from by assumption).1 | exact (show isCamp _ _ from by assumption).1 | exact (show isRow _ _ from by assumption).1) (Nat.le_of_ble_eq_true rfl) (by decide) (c1) (by omega) ?_
  refine Gs_aload_n p205_785 rfl rfl ?_
  refine Gs_aload_n p205_786 rfl rfl ?_
  refine Gs_iload_n p205_787 rfl rfl ?_
  refine Gs_iconst p205_788 ?_
  refine Gs_iadd p205_789 ?_
  refine Gs_sld p205_790 (by omega) (by omega) (by omega) ?_
  refine Gs_aload_n p205_791 rfl rfl ?_
  refine Gs_iload_n p205_792 rfl rfl ?_
  refine Gs_iconst p205_793 ?_
  refine Gs_iadd p205_794 ?_
  refine Gs_sld p205_795 (by omega) (by omega) (by omega) ?_
  refine Gs_aload_n p205_796 rfl rfl ?_
  refine Gs_iload_n p205_797 rfl rfl ?_
  refine Gs_iconst p205_798 ?_
  refine Gs_iadd p205_799 ?_
  refine Gs_sld p205_800 (by omega) (by omega) (by omega) ?_
  refine Gs_callV3I p205_801 (by rfl) (by rfl) (by first | rfl | assumption | exact (show isTale _ from by assumption).1 | exact (show isCamp _ _ from by assumption).1 | exact (show isRow _ _ from by assumption).1) (Nat.le_of_ble_eq_true rfl) (by decide) (c2) (by omega) ?_
  refine Gs_icmp_eq (tgt := 954) p205_804 (by rfl) hz hz (fun h804 => ?_) (fun h804 => absurd rfl ‹_›)
  refine Gs_iinc3 (b53 := none) p205_954 rfl ?_
  refine Gs_goto (tgt := 18) p205_957 (by rfl) ?_
  exact IH s2 hR2
set_option maxHeartbeats 2000000 in
set_option maxRecDepth 20000 in
theorem law_rains {X : vX} {K i : Int} {s : St} {d : Nat} {Q : Option Value → St → Prop} (hX : (X.1 : Int) ≤ 2560) (hR : Rel K s) (hK : K < 512) (hd : 1000 ≤ d) (hi : 0 ≤ i) (hiL : i + 5 ≤ X.1) (IH : ∀ s2, Rel (K + 1) s2 → Gs X d 205 18 [some (.ref vm_scr), some (.ref 0), some (.ref 95), some (.int (iI (i + 5)))] [] s2 Q) :
    Gs X d 205 809 [some (.ref vm_scr), some (.ref 0), some (.ref 95), some (.int (iI i))] [] s Q := by
  obtain ⟨z, s1, s2, hz, c1, c2, hR2⟩ := T_rains (X := X) hR hK (x1 := (X.2 (i + 1).toNat).toInt) (x2 := (X.2 (i + 2).toNat).toInt) (x3 := (X.2 (i + 3).toNat).toInt) (x4 := (X.2 (i + 4).toNat).toInt) (rg_of _) (rg_of _) (rg_of _) (rg_of _)
  refine Gs_aload_n p205_809 rfl rfl ?_
  refine Gs_aload_n p205_810 rfl rfl ?_
  refine Gs_iload_n p205_811 rfl rfl ?_
  refine Gs_iconst p205_812 ?_
  refine Gs_iadd p205_813 ?_
  refine Gs_sld p205_814 (by omega) (by omega) (by omega) ?_
  refine Gs_aload_n p205_815 rfl rfl ?_
  refine Gs_iload_n p205_816 rfl rfl ?_
  refine Gs_iconst p205_817 ?_
  refine Gs_iadd p205_818 ?_
  refine Gs_sld p205_819 (by omega) (by omega) (by omega) ?_
  refine Gs_aload_n p205_820 rfl rfl ?_
  refine Gs_iload_n p205_821 rfl rfl ?_
  refine Gs_iconst p205_822 ?_
  refine Gs_iadd p205_823 ?_
  refine Gs_sld p205_824 (by omega) (by omega) (by omega) ?_
  refine Gs_aload_n p205_825 rfl rfl ?_
  refine Gs_iload_n p205_826 rfl rfl ?_
  refine Gs_iconst p205_827 ?_
  refine Gs_iadd p205_828 ?_
  refine Gs_sld p205_829 (by omega) (by omega) (by omega) ?_
  refine Gs_callV4I p205_830 (by rfl) (by rfl) (by first | rfl | assumption | exact (show isTale _ from by assumption).1 | exact (show isCamp _ _ from by assumption).1 | exact (show isRow _ _ from by assumption).1) (Nat.le_of_ble_eq_true rfl) (by decide) (c1) (by omega) ?_
  refine Gs_aload_n p205_833 rfl rfl ?_
  refine Gs_aload_n p205_834 rfl rfl ?_
  refine Gs_iload_n p205_835 rfl rfl ?_
  refine Gs_iconst p205_836 ?_
  refine Gs_iadd p205_837 ?_
  refine Gs_sld p205_838 (by omega) (by omega) (by omega) ?_
  refine Gs_aload_n p205_839 rfl rfl ?_
  refine Gs_iload_n p205_840 rfl rfl ?_
  refine Gs_iconst p205_841 ?_
  refine Gs_iadd p205_842 ?_
  refine Gs_sld p205_843 (by omega) (by omega) (by omega) ?_
  refine Gs_aload_n p205_844 rfl rfl ?_
  refine Gs_iload_n p205_845 rfl rfl ?_
  refine Gs_iconst p205_846 ?_
  refine Gs_iadd p205_847 ?_
  refine Gs_sld p205_848 (by omega) (by omega) (by omega) ?_
  refine Gs_aload_n p205_849 rfl rfl ?_
  refine Gs_iload_n p205_850 rfl rfl ?_
  refine Gs_iconst p205_851 ?_
  refine Gs_iadd p205_852 ?_
  refine Gs_sld p205_853 (by omega) (by omega) (by omega) ?_
  refine Gs_callV4I p205_854 (by rfl) (by rfl) (by first | rfl | assumption | exact (show isTale _ from by assumption).1 | exact (show isCamp _ _ from by assumption).1 | exact (show isRow _ _ from by assumption).1) (Nat.le_of_ble_eq_true rfl) (by decide) (c2) (by omega) ?_
  refine Gs_icmp_eq (tgt := 954) p205_857 (by rfl) hz hz (fun h857 => ?_) (fun h857 => absurd rfl ‹_›)
  refine Gs_iinc3 (b53 := none) p205_954 rfl ?_
  refine Gs_goto (tgt := 18) p205_957 (by rfl) ?_
  exact IH s2 hR2
set_option maxHeartbeats 2000000 in
set_option maxRecDepth 20000 in
theorem law_winter {X : vX} {K i : Int} {s : St} {d : Nat} {Q : Option Value → St → Prop} (hX : (X.1 : Int) ≤ 2560) (hR : Rel K s) (hK : K < 512) (hd : 1000 ≤ d) (hi : 0 ≤ i) (hiL : i + 5 ≤ X.1) (IH : ∀ s2, Rel (K + 1) s2 → Gs X d 205 18 [some (.ref vm_scr), some (.ref 0), some (.ref 95), some (.int (iI (i + 5)))] [] s2 Q) :
    Gs X d 205 862 [some (.ref vm_scr), some (.ref 0), some (.ref 95), some (.int (iI i))] [] s Q := by
  obtain ⟨z, s1, s2, hz, c1, c2, hR2⟩ := T_winter (X := X) hR hK (x1 := (X.2 (i + 1).toNat).toInt) (x2 := (X.2 (i + 2).toNat).toInt) (x3 := (X.2 (i + 3).toNat).toInt) (rg_of _) (rg_of _) (rg_of _)
  refine Gs_aload_n p205_862 rfl rfl ?_
  refine Gs_aload_n p205_863 rfl rfl ?_
  refine Gs_iload_n p205_864 rfl rfl ?_
  refine Gs_iconst p205_865 ?_
  refine Gs_iadd p205_866 ?_
  refine Gs_sld p205_867 (by omega) (by omega) (by omega) ?_
  refine Gs_aload_n p205_868 rfl rfl ?_
  refine Gs_iload_n p205_869 rfl rfl ?_
  refine Gs_iconst p205_870 ?_
  refine Gs_iadd p205_871 ?_
  refine Gs_sld p205_872 (by omega) (by omega) (by omega) ?_
  refine Gs_aload_n p205_873 rfl rfl ?_
  refine Gs_iload_n p205_874 rfl rfl ?_
  refine Gs_iconst p205_875 ?_
  refine Gs_iadd p205_876 ?_
  refine Gs_sld p205_877 (by omega) (by omega) (by omega) ?_
  refine Gs_callV3I p205_878 (by rfl) (by rfl) (by first | rfl | assumption | exact (show isTale _ from by assumption).1 | exact (show isCamp _ _ from by assumption).1 | exact (show isRow _ _ from by assumption).1) (Nat.le_of_ble_eq_true rfl) (by decide) (c1) (by omega) ?_
  refine Gs_aload_n p205_881 rfl rfl ?_
  refine Gs_aload_n p205_882 rfl rfl ?_
  refine Gs_iload_n p205_883 rfl rfl ?_
  refine Gs_iconst p205_884 ?_
  refine Gs_iadd p205_885 ?_
  refine Gs_sld p205_886 (by omega) (by omega) (by omega) ?_
  refine Gs_aload_n p205_887 rfl rfl ?_
  refine Gs_iload_n p205_888 rfl rfl ?_
  refine Gs_iconst p205_889 ?_
  refine Gs_iadd p205_890 ?_
  refine Gs_sld p205_891 (by omega) (by omega) (by omega) ?_
  refine Gs_aload_n p205_892 rfl rfl ?_
  refine Gs_iload_n p205_893 rfl rfl ?_
  refine Gs_iconst p205_894 ?_
  refine Gs_iadd p205_895 ?_
  refine Gs_sld p205_896 (by omega) (by omega) (by omega) ?_
  refine Gs_callV3I p205_897 (by rfl) (by rfl) (by first | rfl | assumption | exact (show isTale _ from by assumption).1 | exact (show isCamp _ _ from by assumption).1 | exact (show isRow _ _ from by assumption).1) (Nat.le_of_ble_eq_true rfl) (by decide) (c2) (by omega) ?_
  refine Gs_icmp_eq (tgt := 954) p205_900 (by rfl) hz hz (fun h900 => ?_) (fun h900 => absurd rfl ‹_›)
  refine Gs_iinc3 (b53 := none) p205_954 rfl ?_
  refine Gs_goto (tgt := 18) p205_957 (by rfl) ?_
  exact IH s2 hR2
set_option maxHeartbeats 2000000 in
set_option maxRecDepth 20000 in
theorem law_keep {X : vX} {K i : Int} {s : St} {d : Nat} {Q : Option Value → St → Prop} (hX : (X.1 : Int) ≤ 2560) (hR : Rel K s) (hK : K < 512) (hd : 1000 ≤ d) (hi : 0 ≤ i) (hiL : i + 5 ≤ X.1) (IH : ∀ s2, Rel (K + 1) s2 → Gs X d 205 18 [some (.ref vm_scr), some (.ref 0), some (.ref 95), some (.int (iI (i + 5)))] [] s2 Q) :
    Gs X d 205 905 [some (.ref vm_scr), some (.ref 0), some (.ref 95), some (.int (iI i))] [] s Q := by
  obtain ⟨z, s1, s2, hz, c1, c2, hR2⟩ := T_keep (X := X) hR hK  
  refine Gs_aload_n p205_905 rfl rfl ?_
  refine Gs_callV0I p205_906 (by rfl) (by rfl) (by first | rfl | assumption | exact (show isTale _ from by assumption).1 | exact (show isCamp _ _ from by assumption).1 | exact (show isRow _ _ from by assumption).1) (Nat.le_of_ble_eq_true rfl) (by decide) (c1) (by omega) ?_
  refine Gs_aload_n p205_909 rfl rfl ?_
  refine Gs_callV0I p205_910 (by rfl) (by rfl) (by first | rfl | assumption | exact (show isTale _ from by assumption).1 | exact (show isCamp _ _ from by assumption).1 | exact (show isRow _ _ from by assumption).1) (Nat.le_of_ble_eq_true rfl) (by decide) (c2) (by omega) ?_
  refine Gs_icmp_eq (tgt := 954) p205_913 (by rfl) hz hz (fun h913 => ?_) (fun h913 => absurd rfl ‹_›)
  refine Gs_iinc3 (b53 := none) p205_954 rfl ?_
  refine Gs_goto (tgt := 18) p205_957 (by rfl) ?_
  exact IH s2 hR2
set_option maxHeartbeats 2000000 in
set_option maxRecDepth 20000 in
theorem law_back {X : vX} {K i : Int} {s : St} {d : Nat} {Q : Option Value → St → Prop} (hX : (X.1 : Int) ≤ 2560) (hR : Rel K s) (hK : K < 512) (hd : 1000 ≤ d) (hi : 0 ≤ i) (hiL : i + 5 ≤ X.1) (IH : ∀ s2, Rel (K + 1) s2 → Gs X d 205 18 [some (.ref vm_scr), some (.ref 0), some (.ref 95), some (.int (iI (i + 5)))] [] s2 Q) :
    Gs X d 205 918 [some (.ref vm_scr), some (.ref 0), some (.ref 95), some (.int (iI i))] [] s Q := by
  obtain ⟨z, s1, s2, hz, c1, c2, hR2⟩ := T_back (X := X) hR hK  
  refine Gs_aload_n p205_918 rfl rfl ?_
  refine Gs_callV0I p205_919 (by rfl) (by rfl) (by first | rfl | assumption | exact (show isTale _ from by assumption).1 | exact (show isCamp _ _ from by assumption).1 | exact (show isRow _ _ from by assumption).1) (Nat.le_of_ble_eq_true rfl) (by decide) (c1) (by omega) ?_
  refine Gs_aload_n p205_922 rfl rfl ?_
  refine Gs_callV0I p205_923 (by rfl) (by rfl) (by first | rfl | assumption | exact (show isTale _ from by assumption).1 | exact (show isCamp _ _ from by assumption).1 | exact (show isRow _ _ from by assumption).1) (Nat.le_of_ble_eq_true rfl) (by decide) (c2) (by omega) ?_
  refine Gs_icmp_eq (tgt := 954) p205_926 (by rfl) hz hz (fun h926 => ?_) (fun h926 => absurd rfl ‹_›)
  refine Gs_iinc3 (b53 := none) p205_954 rfl ?_
  refine Gs_goto (tgt := 18) p205_957 (by rfl) ?_
  exact IH s2 hR2
set_option maxHeartbeats 2000000 in
set_option maxRecDepth 20000 in
theorem law_count {X : vX} {K i : Int} {s : St} {d : Nat} {Q : Option Value → St → Prop} (hX : (X.1 : Int) ≤ 2560) (hR : Rel K s) (hK : K < 512) (hd : 1000 ≤ d) (hi : 0 ≤ i) (hiL : i + 5 ≤ X.1) (IH : ∀ s2, Rel (K + 1) s2 → Gs X d 205 18 [some (.ref vm_scr), some (.ref 0), some (.ref 95), some (.int (iI (i + 5)))] [] s2 Q) :
    Gs X d 205 931 [some (.ref vm_scr), some (.ref 0), some (.ref 95), some (.int (iI i))] [] s Q := by
  obtain ⟨z, s1, s2, hz, c1, c2, hR2⟩ := T_count (X := X) hR hK (x1 := (X.2 (i + 1).toNat).toInt) (rg_of _)
  refine Gs_aload_n p205_931 rfl rfl ?_
  refine Gs_aload_n p205_932 rfl rfl ?_
  refine Gs_iload_n p205_933 rfl rfl ?_
  refine Gs_iconst p205_934 ?_
  refine Gs_iadd p205_935 ?_
  refine Gs_sld p205_936 (by omega) (by omega) (by omega) ?_
  refine Gs_callV1I p205_937 (by rfl) (by rfl) (by first | rfl | assumption | exact (show isTale _ from by assumption).1 | exact (show isCamp _ _ from by assumption).1 | exact (show isRow _ _ from by assumption).1) (Nat.le_of_ble_eq_true rfl) (by decide) (c1) (by omega) ?_
  refine Gs_aload_n p205_940 rfl rfl ?_
  refine Gs_aload_n p205_941 rfl rfl ?_
  refine Gs_iload_n p205_942 rfl rfl ?_
  refine Gs_iconst p205_943 ?_
  refine Gs_iadd p205_944 ?_
  refine Gs_sld p205_945 (by omega) (by omega) (by omega) ?_
  refine Gs_callV1I p205_946 (by rfl) (by rfl) (by first | rfl | assumption | exact (show isTale _ from by assumption).1 | exact (show isCamp _ _ from by assumption).1 | exact (show isRow _ _ from by assumption).1) (Nat.le_of_ble_eq_true rfl) (by decide) (c2) (by omega) ?_
  refine Gs_icmp_eq (tgt := 954) p205_949 (by rfl) hz hz (fun h949 => ?_) (fun h949 => absurd rfl ‹_›)
  refine Gs_iinc3 (b53 := none) p205_954 rfl ?_
  refine Gs_goto (tgt := 18) p205_957 (by rfl) ?_
  exact IH s2 hR2
set_option maxHeartbeats 4000000 in
set_option maxRecDepth 20000 in
theorem law_turn {X : vX} {K i : Int} {s : St} {d : Nat} {Q : Option Value → St → Prop} (hX : (X.1 : Int) ≤ 2560) (hR : Rel K s) (hK : K < 512) (hd : 1000 ≤ d) (hi : 0 ≤ i) (hiL : i + 5 ≤ X.1) (IH : ∀ s2, Rel (K + 1) s2 → Gs X d 205 18 [some (.ref vm_scr), some (.ref 0), some (.ref 95), some (.int (iI (i + 5)))] [] s2 Q) (j : Nat) (hj : j < 32) :
    Gs X d 205 32 [some (.ref vm_scr), some (.ref 0), some (.ref 95), some (.int (iI i))] [.int (iI (j : Int))] s Q := by
  match j, hj with
  | 0, _ => exact Gs_tabIn (off := 128) (tgt := 160) p205_32 ⟨by decide, by decide⟩ (by decide) (by decide) rfl (by rfl) (law_write hX hR hK hd hi (by omega) IH)
  | 1, _ => exact Gs_tabIn (off := 151) (tgt := 183) p205_32 ⟨by decide, by decide⟩ (by decide) (by decide) rfl (by rfl) (law_wipe hX hR hK hd hi (by omega) IH)
  | 2, _ => exact Gs_tabIn (off := 164) (tgt := 196) p205_32 ⟨by decide, by decide⟩ (by decide) (by decide) rfl (by rfl) (law_fault hX hR hK hd hi (by omega) IH)
  | 3, _ => exact Gs_tabIn (off := 177) (tgt := 209) p205_32 ⟨by decide, by decide⟩ (by decide) (by decide) rfl (by rfl) (law_lay hX hR hK hd hi (by omega) IH)
  | 4, _ => exact Gs_tabIn (off := 190) (tgt := 222) p205_32 ⟨by decide, by decide⟩ (by decide) (by decide) rfl (by rfl) (law_line hX hR hK hd hi (by omega) IH)
  | 5, _ => exact Gs_tabIn (off := 223) (tgt := 255) p205_32 ⟨by decide, by decide⟩ (by decide) (by decide) rfl (by rfl) (law_rain hX hR hK hd hi (by omega) IH)
  | 6, _ => exact Gs_tabIn (off := 246) (tgt := 278) p205_32 ⟨by decide, by decide⟩ (by decide) (by decide) rfl (by rfl) (law_company hX hR hK hd hi (by omega) IH)
  | 7, _ => exact Gs_tabIn (off := 279) (tgt := 311) p205_32 ⟨by decide, by decide⟩ (by decide) (by decide) rfl (by rfl) (law_put hX hR hK hd hi (by omega) IH)
  | 8, _ => exact Gs_tabIn (off := 312) (tgt := 344) p205_32 ⟨by decide, by decide⟩ (by decide) (by decide) rfl (by rfl) (law_pass hX hR hK hd hi (by omega) IH)
  | 9, _ => exact Gs_tabIn (off := 335) (tgt := 367) p205_32 ⟨by decide, by decide⟩ (by decide) (by decide) rfl (by rfl) (law_light hX hR hK hd hi (by omega) IH)
  | 10, _ => exact Gs_tabIn (off := 368) (tgt := 400) p205_32 ⟨by decide, by decide⟩ (by decide) (by decide) rfl (by rfl) (law_join hX hR hK hd hi (by omega) IH)
  | 11, _ => exact Gs_tabIn (off := 401) (tgt := 433) p205_32 ⟨by decide, by decide⟩ (by decide) (by decide) rfl (by rfl) (law_hand hX hR hK hd hi (by omega) IH)
  | 12, _ => exact Gs_tabIn (off := 444) (tgt := 476) p205_32 ⟨by decide, by decide⟩ (by decide) (by decide) rfl (by rfl) (law_undo hX hR hK hd hi (by omega) IH)
  | 13, _ => exact Gs_tabIn (off := 457) (tgt := 489) p205_32 ⟨by decide, by decide⟩ (by decide) (by decide) rfl (by rfl) (law_lasts hX hR hK hd hi (by omega) IH)
  | 14, _ => exact Gs_tabIn (off := 480) (tgt := 512) p205_32 ⟨by decide, by decide⟩ (by decide) (by decide) rfl (by rfl) (law_stays hX hR hK hd hi (by omega) IH)
  | 15, _ => exact Gs_tabIn (off := 523) (tgt := 555) p205_32 ⟨by decide, by decide⟩ (by decide) (by decide) rfl (by rfl) (law_tell hX hR hK hd hi (by omega) IH)
  | 16, _ => exact Gs_tabIn (off := 566) (tgt := 598) p205_32 ⟨by decide, by decide⟩ (by decide) (by decide) rfl (by rfl) (law_meet hX hR hK hd hi (by omega) IH)
  | 17, _ => exact Gs_tabIn (off := 609) (tgt := 641) p205_32 ⟨by decide, by decide⟩ (by decide) (by decide) rfl (by rfl) (law_can hX hR hK hd hi (by omega) IH)
  | 18, _ => exact Gs_tabIn (off := 632) (tgt := 664) p205_32 ⟨by decide, by decide⟩ (by decide) (by decide) rfl (by rfl) (law_give hX hR hK hd hi (by omega) IH)
  | 19, _ => exact Gs_tabIn (off := 675) (tgt := 707) p205_32 ⟨by decide, by decide⟩ (by decide) (by decide) rfl (by rfl) (law_see hX hR hK hd hi (by omega) IH)
  | 20, _ => exact Gs_tabIn (off := 698) (tgt := 730) p205_32 ⟨by decide, by decide⟩ (by decide) (by decide) rfl (by rfl) (law_forget hX hR hK hd hi (by omega) IH)
  | 21, _ => exact Gs_tabIn (off := 711) (tgt := 743) p205_32 ⟨by decide, by decide⟩ (by decide) (by decide) rfl (by rfl) (law_from hX hR hK hd hi (by omega) IH)
  | 22, _ => exact Gs_tabIn (off := 734) (tgt := 766) p205_32 ⟨by decide, by decide⟩ (by decide) (by decide) rfl (by rfl) (law_rows hX hR hK hd hi (by omega) IH)
  | 23, _ => exact Gs_tabIn (off := 777) (tgt := 809) p205_32 ⟨by decide, by decide⟩ (by decide) (by decide) rfl (by rfl) (law_rains hX hR hK hd hi (by omega) IH)
  | 24, _ => exact Gs_tabIn (off := 830) (tgt := 862) p205_32 ⟨by decide, by decide⟩ (by decide) (by decide) rfl (by rfl) (law_winter hX hR hK hd hi (by omega) IH)
  | 25, _ => exact Gs_tabIn (off := 873) (tgt := 905) p205_32 ⟨by decide, by decide⟩ (by decide) (by decide) rfl (by rfl) (law_keep hX hR hK hd hi (by omega) IH)
  | 26, _ => exact Gs_tabIn (off := 886) (tgt := 918) p205_32 ⟨by decide, by decide⟩ (by decide) (by decide) rfl (by rfl) (law_back hX hR hK hd hi (by omega) IH)
  | 27, _ => exact Gs_tabIn (off := 899) (tgt := 931) p205_32 ⟨by decide, by decide⟩ (by decide) (by decide) rfl (by rfl) (law_count hX hR hK hd hi (by omega) IH)
  | n + 28, hj =>
    refine Gs_tabOut (tgt := 954) p205_32 ⟨by omega, by omega⟩ (Or.inr (by omega)) (by rfl) ?_
    refine Gs_iinc3 (b53 := none) p205_954 rfl ?_
    refine Gs_goto (tgt := 18) p205_957 (by rfl) ?_
    exact IH s (Rel_more hR)
theorem law_loop {X : vX} {d : Nat} (hX : (X.1 : Int) ≤ 2560) (hd : 1000 ≤ d) (K : Int) (s : St) (hR : Rel K s) (hi : 5 * K ≤ X.1) : Gs X d 205 18 [some (.ref vm_scr), some (.ref 0), some (.ref 95), some (.int (iI (5 * K)))] [] s (fun v _ => v = some (.int 1)) := by
  have hK0 : 0 ≤ K := hR.1
  refine Gs_iload_n p205_18 rfl rfl ?_
  refine Gs_aload_n p205_19 rfl rfl ?_
  refine Gs_slen p205_20 ?_
  refine Gs_iconst p205_21 ?_
  refine Gs_isub p205_22 ?_
  refine Gs_icmp_gt (tgt := 960) p205_23 (by rfl) ⟨by omega, by omega⟩ ⟨by omega, by omega⟩ (fun h => ?_) (fun h => ?_)
  · refine Gs_iconst p205_960 ?_
    exact Gs_zret p205_961 rfl (Or.inr rfl) rfl
  · refine Gs_aload_n p205_26 rfl rfl ?_
    refine Gs_iload_n p205_27 rfl rfl ?_
    refine Gs_sld p205_28 (by omega) (by omega) (by omega) ?_
    refine Gs_bipush (n := 31) p205_29 (by decide) ?_
    obtain ⟨j, hj, e⟩ := law_and (rg_of (X.2 (5 * K).toNat))
    refine Gs_iand p205_31 e ?_
    refine law_turn hX hR (by omega) hd (by omega) (by omega) (fun s2 hR2 => ?_) j hj
    have H := law_loop hX hd (K + 1) s2 hR2 (by omega)
    rw [show 5 * (K + 1) = 5 * K + 5 by omega] at H
    exact H
termination_by ((X.1 : Int) - 5 * K).toNat
decreasing_by omega
