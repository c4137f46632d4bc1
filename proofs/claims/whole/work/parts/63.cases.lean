/-! The law's cases: from a case's first instruction to the loop's end. -/
def LC (p : Program) (s : State) (m : MethodId) (c : Code) (G : gG) (sb L : Nat) (xs : Nat → Int32) : Prop := cx p s m c code 4 RL G ∧ va_X sb L xs s s.heap ∧ sb < s.heap.size
def LA (s : State) : Nat → Prop := fun q => s.heap.size ≤ q
set_option maxHeartbeats 4000000 in
set_option maxRecDepth 100000 in
theorem lc_configure {p : Program} {l : Launch} {e : Env} {s : State} {m : MethodId} {args : Array Value} {below : List Frame} {meth : Method} {c : Code} {H : Heap} {locs : List Loc} {Q : State → Prop} {ls : Array Slot} {G : gG} {sb L : Nat} {xs : Nat → Int32} {ad b : Nat → Nat} {F : Nat → Nat → Int32} {nx ct : Nat} {fl T : Nat → Int32} {len : Nat} {B i : Nat} {M : HM} (C : LC p s m c G sb L xs) (hi : i + 3 ≤ L) (hL : L ≤ 1536) (hB : B + 120 < 2 ^ 30) (hap : Apt ad b) (hw : Wd G (LA s) s.heap M H locs) (hI : LI G M ad b (F, nx, ct, fl, T, len)) (hZ : ZI B (F, nx, ct, fl, T, len)) (hl : lv_has ls 4 [(3, .int (nI i)), (2, .ref (b 0)), (1, .ref (ad 0)), (0, .ref sb)]) (kk : ∀ (z : Sg) (M : HM) (H : Heap) (locs : List Loc), Wd G (LA s) s.heap M H locs → LI G M ad b z → ZI (B + 120) z → W p l e room_1 s m args below meth c H locs 367 4106 Q (F0 m 1111 ls [])) : W p l e room_1 s m args below meth c H locs 367 4106 Q (F0 m 204 ls []) := by
  obtain ⟨cX, hX, hbl⟩ := C
  have hx := cX.1
  have hb := cX.2.1
  have hbA : ¬ LA s sb := Nat.not_le.mpr hbl
  obtain ⟨⟨tr, hC⟩, hRZ⟩ := hI
  have hC : Cl G M M ad F nx ct fl T len tr := hC
  have hin1 : vp_in (nI i + 1) L := by rw [nI_1]; exact vp_in_nI (by omega) (by omega)
  have hin2 : vp_in (nI i + 2) L := by rw [show nI i + (2 : Int32) = nI (i + 2) from nI_add i 2]; exact vp_in_nI (by omega) (by omega)
  have hs8 : nx < 8 ∧ ct ≤ 8 ∧ len ≤ 120 := ⟨hC.1.2.2.2.2.2.2.2.2.2.1, hC.1.2.2.2.2.2.2.2.2.2.2.1, hC.1.2.2.2.2.2.2.2.2.2.2.2.1⟩
  refine lv_aload_n hx hb dL_law_204 rfl (lv_at hl 2 rfl) ?_
  refine lv_aload_n hx hb dL_law_205 rfl (lv_at hl 3 rfl) ?_
  refine lv_iload_n hx hb dL_law_206 rfl (lv_at hl 0 rfl) ?_
  refine lv_iconst (v := 1) hx hb dL_law_207 (by decide) ?_
  refine lv_iadd hx hb dL_law_208 ?_
  refine va_sld hx hb hX hbl hbA hw.2.1 hin1 dL_law_209 ?_
  refine lv_aload_n hx hb dL_law_210 rfl (lv_at hl 3 rfl) ?_
  refine lv_iload_n hx hb dL_law_211 rfl (lv_at hl 0 rfl) ?_
  refine lv_iconst (v := 2) hx hb dL_law_212 (by decide) ?_
  refine lv_iadd hx hb dL_law_213 ?_
  refine va_sld hx hb hX hbl hbA hw.2.1 hin2 dL_law_214 ?_
  refine r_Vi cX hw hC.1.1 rfl [.int (xs (nI i + 1).toNatClampNeg), .int (xs (nI i + 2).toNatClampNeg)] (c_X6_configure l G hC.1 (xs (nI i + 1).toNatClampNeg) (xs (nI i + 2).toNatClampNeg) (hZ.1 0 (by decide))) wM_L_13 mw_X6_configure ⟨Nat.le_of_ble_eq_true rfl, Nat.le_of_ble_eq_true rfl⟩ rfl rfl hl.1 (Nat.le_of_ble_eq_true rfl) dL_law_215 ⟨Nat.le_of_ble_eq_true rfl, Nat.le_of_ble_eq_true rfl⟩ (fun r1 M1 H locs hp hw => ?_)
  obtain ⟨hr1, hp1⟩ := hp
  have hRZ1 := hRZ.off hp1.offc hap
  obtain ⟨sv, sl, iF, iN, at_, it, hR, hsv, hsl, hnx, hcn, hln⟩ := hRZ1
  have hR : Rf G M1 M1 b (F 0) sv sl fl T iF iN (nI ct) (nI len) at_ it := hR
  have hsv : SVr F nx ct sv := hsv
  have hsl : SLr F fl sl := hsl
  have hnx : nx < 8 := hnx
  have hcn : ct ≤ 8 := hcn
  have hln : len ≤ 120 := hln
  refine lv_aload_n hx hb dL_law_218 rfl (lv_at hl 1 rfl) ?_
  refine lv_aload_n hx hb dL_law_219 rfl (lv_at hl 3 rfl) ?_
  refine lv_iload_n hx hb dL_law_220 rfl (lv_at hl 0 rfl) ?_
  refine lv_iconst (v := 1) hx hb dL_law_221 (by decide) ?_
  refine lv_iadd hx hb dL_law_222 ?_
  refine va_sld hx hb hX hbl hbA hw.2.1 hin1 dL_law_223 ?_
  refine lv_aload_n hx hb dL_law_224 rfl (lv_at hl 3 rfl) ?_
  refine lv_iload_n hx hb dL_law_225 rfl (lv_at hl 0 rfl) ?_
  refine lv_iconst (v := 2) hx hb dL_law_226 (by decide) ?_
  refine lv_iadd hx hb dL_law_227 ?_
  refine va_sld hx hb hX hbl hbA hw.2.1 hin2 dL_law_228 ?_
  refine r_Vi cX hw hR.1.1 rfl [.int (xs (nI i + 1).toNatClampNeg), .int (xs (nI i + 2).toNatClampNeg)] (c_X7_configure l G (F := F) (nx := nx) (cn := ct) (ln := len) hR.1 hsv hsl hnx hcn hln (xs (nI i + 1).toNatClampNeg) (xs (nI i + 2).toNatClampNeg)) wM_L_17 mw_X7_configure ⟨Nat.le_of_ble_eq_true rfl, Nat.le_of_ble_eq_true rfl⟩ rfl rfl hl.1 (Nat.le_of_ble_eq_true rfl) dL_law_229 ⟨Nat.le_of_ble_eq_true rfl, Nat.le_of_ble_eq_true rfl⟩ (fun r2 M2 H locs hp hw => ?_)
  obtain ⟨hr2, hp2⟩ := hp
  refine lv_icmp_eq (tgt := 1111) hx hb dL_law_232 (by decide) (fun c0 => ?_) (fun c0 => ?_)
  · refine W.widen (k := 367) (n := 4106) (Nat.le_of_ble_eq_true rfl) (Nat.le_of_ble_eq_true rfl) ?_
    exact kk _ _ _ _ hw ⟨hp1.self.off hp2.offc hap, hp2.self⟩ (zi_configure hZ hnx (xs (nI i + 1).toNatClampNeg) (xs (nI i + 2).toNatClampNeg))
  · exact absurd (hr1.trans hr2.symm) c0

set_option maxHeartbeats 4000000 in
set_option maxRecDepth 100000 in
theorem lc_setDelay {p : Program} {l : Launch} {e : Env} {s : State} {m : MethodId} {args : Array Value} {below : List Frame} {meth : Method} {c : Code} {H : Heap} {locs : List Loc} {Q : State → Prop} {ls : Array Slot} {G : gG} {sb L : Nat} {xs : Nat → Int32} {ad b : Nat → Nat} {F : Nat → Nat → Int32} {nx ct : Nat} {fl T : Nat → Int32} {len : Nat} {B i : Nat} {M : HM} (C : LC p s m c G sb L xs) (hi : i + 3 ≤ L) (hL : L ≤ 1536) (hB : B + 120 < 2 ^ 30) (hap : Apt ad b) (hw : Wd G (LA s) s.heap M H locs) (hI : LI G M ad b (F, nx, ct, fl, T, len)) (hZ : ZI B (F, nx, ct, fl, T, len)) (hl : lv_has ls 4 [(3, .int (nI i)), (2, .ref (b 0)), (1, .ref (ad 0)), (0, .ref sb)]) (kk : ∀ (z : Sg) (M : HM) (H : Heap) (locs : List Loc), Wd G (LA s) s.heap M H locs → LI G M ad b z → ZI (B + 120) z → W p l e room_1 s m args below meth c H locs 367 4106 Q (F0 m 1111 ls [])) : W p l e room_1 s m args below meth c H locs 367 4106 Q (F0 m 237 ls []) := by
  obtain ⟨cX, hX, hbl⟩ := C
  have hx := cX.1
  have hb := cX.2.1
  have hbA : ¬ LA s sb := Nat.not_le.mpr hbl
  obtain ⟨⟨tr, hC⟩, hRZ⟩ := hI
  have hC : Cl G M M ad F nx ct fl T len tr := hC
  have hin1 : vp_in (nI i + 1) L := by rw [nI_1]; exact vp_in_nI (by omega) (by omega)
  have hin2 : vp_in (nI i + 2) L := by rw [show nI i + (2 : Int32) = nI (i + 2) from nI_add i 2]; exact vp_in_nI (by omega) (by omega)
  have hs8 : nx < 8 ∧ ct ≤ 8 ∧ len ≤ 120 := ⟨hC.1.2.2.2.2.2.2.2.2.2.1, hC.1.2.2.2.2.2.2.2.2.2.2.1, hC.1.2.2.2.2.2.2.2.2.2.2.2.1⟩
  refine lv_aload_n hx hb dL_law_237 rfl (lv_at hl 2 rfl) ?_
  refine lv_aload_n hx hb dL_law_238 rfl (lv_at hl 3 rfl) ?_
  refine lv_iload_n hx hb dL_law_239 rfl (lv_at hl 0 rfl) ?_
  refine lv_iconst (v := 1) hx hb dL_law_240 (by decide) ?_
  refine lv_iadd hx hb dL_law_241 ?_
  refine va_sld hx hb hX hbl hbA hw.2.1 hin1 dL_law_242 ?_
  refine lv_aload_n hx hb dL_law_243 rfl (lv_at hl 3 rfl) ?_
  refine lv_iload_n hx hb dL_law_244 rfl (lv_at hl 0 rfl) ?_
  refine lv_iconst (v := 2) hx hb dL_law_245 (by decide) ?_
  refine lv_iadd hx hb dL_law_246 ?_
  refine va_sld hx hb hX hbl hbA hw.2.1 hin2 dL_law_247 ?_
  refine r_Vi cX hw hC.1.1 rfl [.int (xs (nI i + 1).toNatClampNeg), .int (xs (nI i + 2).toNatClampNeg)] (c_X6_setDelay l G hC.1 (xs (nI i + 1).toNatClampNeg) (xs (nI i + 2).toNatClampNeg) (hZ.1 0 (by decide))) wM_L_18 mw_X6_setDelay ⟨Nat.le_of_ble_eq_true rfl, Nat.le_of_ble_eq_true rfl⟩ rfl rfl hl.1 (Nat.le_of_ble_eq_true rfl) dL_law_248 ⟨Nat.le_of_ble_eq_true rfl, Nat.le_of_ble_eq_true rfl⟩ (fun r1 M1 H locs hp hw => ?_)
  obtain ⟨hr1, hp1⟩ := hp
  have hRZ1 := hRZ.off hp1.offc hap
  obtain ⟨sv, sl, iF, iN, at_, it, hR, hsv, hsl, hnx, hcn, hln⟩ := hRZ1
  have hR : Rf G M1 M1 b (F 0) sv sl fl T iF iN (nI ct) (nI len) at_ it := hR
  have hsv : SVr F nx ct sv := hsv
  have hsl : SLr F fl sl := hsl
  have hnx : nx < 8 := hnx
  have hcn : ct ≤ 8 := hcn
  have hln : len ≤ 120 := hln
  refine lv_aload_n hx hb dL_law_251 rfl (lv_at hl 1 rfl) ?_
  refine lv_aload_n hx hb dL_law_252 rfl (lv_at hl 3 rfl) ?_
  refine lv_iload_n hx hb dL_law_253 rfl (lv_at hl 0 rfl) ?_
  refine lv_iconst (v := 1) hx hb dL_law_254 (by decide) ?_
  refine lv_iadd hx hb dL_law_255 ?_
  refine va_sld hx hb hX hbl hbA hw.2.1 hin1 dL_law_256 ?_
  refine lv_aload_n hx hb dL_law_257 rfl (lv_at hl 3 rfl) ?_
  refine lv_iload_n hx hb dL_law_258 rfl (lv_at hl 0 rfl) ?_
  refine lv_iconst (v := 2) hx hb dL_law_259 (by decide) ?_
  refine lv_iadd hx hb dL_law_260 ?_
  refine va_sld hx hb hX hbl hbA hw.2.1 hin2 dL_law_261 ?_
  refine r_Vi cX hw hR.1.1 rfl [.int (xs (nI i + 1).toNatClampNeg), .int (xs (nI i + 2).toNatClampNeg)] (c_X7_setDelay l G (F := F) (nx := nx) (cn := ct) (ln := len) hR.1 hsv hsl hnx hcn hln (hZ.1 0 (by decide)) (xs (nI i + 1).toNatClampNeg) (xs (nI i + 2).toNatClampNeg)) wM_L_21 mw_X7_setDelay ⟨Nat.le_of_ble_eq_true rfl, Nat.le_of_ble_eq_true rfl⟩ rfl rfl hl.1 (Nat.le_of_ble_eq_true rfl) dL_law_262 ⟨Nat.le_of_ble_eq_true rfl, Nat.le_of_ble_eq_true rfl⟩ (fun r2 M2 H locs hp hw => ?_)
  obtain ⟨hr2, hp2⟩ := hp
  refine lv_icmp_eq (tgt := 1111) hx hb dL_law_265 (by decide) (fun c0 => ?_) (fun c0 => ?_)
  · refine W.widen (k := 367) (n := 4106) (Nat.le_of_ble_eq_true rfl) (Nat.le_of_ble_eq_true rfl) ?_
    exact kk _ _ _ _ hw ⟨hp1.self.off hp2.offc hap, hp2.self⟩ (zi_setDelay hZ hnx (xs (nI i + 1).toNatClampNeg) (xs (nI i + 2).toNatClampNeg))
  · exact absurd (hr1.trans hr2.symm) c0

set_option maxHeartbeats 4000000 in
set_option maxRecDepth 100000 in
theorem lc_setRate {p : Program} {l : Launch} {e : Env} {s : State} {m : MethodId} {args : Array Value} {below : List Frame} {meth : Method} {c : Code} {H : Heap} {locs : List Loc} {Q : State → Prop} {ls : Array Slot} {G : gG} {sb L : Nat} {xs : Nat → Int32} {ad b : Nat → Nat} {F : Nat → Nat → Int32} {nx ct : Nat} {fl T : Nat → Int32} {len : Nat} {B i : Nat} {M : HM} (C : LC p s m c G sb L xs) (hi : i + 3 ≤ L) (hL : L ≤ 1536) (hB : B + 120 < 2 ^ 30) (hap : Apt ad b) (hw : Wd G (LA s) s.heap M H locs) (hI : LI G M ad b (F, nx, ct, fl, T, len)) (hZ : ZI B (F, nx, ct, fl, T, len)) (hl : lv_has ls 4 [(3, .int (nI i)), (2, .ref (b 0)), (1, .ref (ad 0)), (0, .ref sb)]) (kk : ∀ (z : Sg) (M : HM) (H : Heap) (locs : List Loc), Wd G (LA s) s.heap M H locs → LI G M ad b z → ZI (B + 120) z → W p l e room_1 s m args below meth c H locs 367 4106 Q (F0 m 1111 ls [])) : W p l e room_1 s m args below meth c H locs 367 4106 Q (F0 m 270 ls []) := by
  obtain ⟨cX, hX, hbl⟩ := C
  have hx := cX.1
  have hb := cX.2.1
  have hbA : ¬ LA s sb := Nat.not_le.mpr hbl
  obtain ⟨⟨tr, hC⟩, hRZ⟩ := hI
  have hC : Cl G M M ad F nx ct fl T len tr := hC
  have hin1 : vp_in (nI i + 1) L := by rw [nI_1]; exact vp_in_nI (by omega) (by omega)
  have hin2 : vp_in (nI i + 2) L := by rw [show nI i + (2 : Int32) = nI (i + 2) from nI_add i 2]; exact vp_in_nI (by omega) (by omega)
  have hs8 : nx < 8 ∧ ct ≤ 8 ∧ len ≤ 120 := ⟨hC.1.2.2.2.2.2.2.2.2.2.1, hC.1.2.2.2.2.2.2.2.2.2.2.1, hC.1.2.2.2.2.2.2.2.2.2.2.2.1⟩
  refine lv_aload_n hx hb dL_law_270 rfl (lv_at hl 2 rfl) ?_
  refine lv_aload_n hx hb dL_law_271 rfl (lv_at hl 3 rfl) ?_
  refine lv_iload_n hx hb dL_law_272 rfl (lv_at hl 0 rfl) ?_
  refine lv_iconst (v := 1) hx hb dL_law_273 (by decide) ?_
  refine lv_iadd hx hb dL_law_274 ?_
  refine va_sld hx hb hX hbl hbA hw.2.1 hin1 dL_law_275 ?_
  refine lv_aload_n hx hb dL_law_276 rfl (lv_at hl 3 rfl) ?_
  refine lv_iload_n hx hb dL_law_277 rfl (lv_at hl 0 rfl) ?_
  refine lv_iconst (v := 2) hx hb dL_law_278 (by decide) ?_
  refine lv_iadd hx hb dL_law_279 ?_
  refine va_sld hx hb hX hbl hbA hw.2.1 hin2 dL_law_280 ?_
  refine r_Vi cX hw hC.1.1 rfl [.int (xs (nI i + 1).toNatClampNeg), .int (xs (nI i + 2).toNatClampNeg)] (c_X6_setRate l G hC.1 (xs (nI i + 1).toNatClampNeg) (xs (nI i + 2).toNatClampNeg) (hZ.1 0 (by decide))) wM_L_22 mw_X6_setRate ⟨Nat.le_of_ble_eq_true rfl, Nat.le_of_ble_eq_true rfl⟩ rfl rfl hl.1 (Nat.le_of_ble_eq_true rfl) dL_law_281 ⟨Nat.le_of_ble_eq_true rfl, Nat.le_of_ble_eq_true rfl⟩ (fun r1 M1 H locs hp hw => ?_)
  obtain ⟨hr1, hp1⟩ := hp
  have hRZ1 := hRZ.off hp1.offc hap
  obtain ⟨sv, sl, iF, iN, at_, it, hR, hsv, hsl, hnx, hcn, hln⟩ := hRZ1
  have hR : Rf G M1 M1 b (F 0) sv sl fl T iF iN (nI ct) (nI len) at_ it := hR
  have hsv : SVr F nx ct sv := hsv
  have hsl : SLr F fl sl := hsl
  have hnx : nx < 8 := hnx
  have hcn : ct ≤ 8 := hcn
  have hln : len ≤ 120 := hln
  refine lv_aload_n hx hb dL_law_284 rfl (lv_at hl 1 rfl) ?_
  refine lv_aload_n hx hb dL_law_285 rfl (lv_at hl 3 rfl) ?_
  refine lv_iload_n hx hb dL_law_286 rfl (lv_at hl 0 rfl) ?_
  refine lv_iconst (v := 1) hx hb dL_law_287 (by decide) ?_
  refine lv_iadd hx hb dL_law_288 ?_
  refine va_sld hx hb hX hbl hbA hw.2.1 hin1 dL_law_289 ?_
  refine lv_aload_n hx hb dL_law_290 rfl (lv_at hl 3 rfl) ?_
  refine lv_iload_n hx hb dL_law_291 rfl (lv_at hl 0 rfl) ?_
  refine lv_iconst (v := 2) hx hb dL_law_292 (by decide) ?_
  refine lv_iadd hx hb dL_law_293 ?_
  refine va_sld hx hb hX hbl hbA hw.2.1 hin2 dL_law_294 ?_
  refine r_Vi cX hw hR.1.1 rfl [.int (xs (nI i + 1).toNatClampNeg), .int (xs (nI i + 2).toNatClampNeg)] (c_X7_setRate l G (F := F) (nx := nx) (cn := ct) (ln := len) hR.1 hsv hsl hnx hcn hln (hZ.1 0 (by decide)) (xs (nI i + 1).toNatClampNeg) (xs (nI i + 2).toNatClampNeg)) wM_L_25 mw_X7_setRate ⟨Nat.le_of_ble_eq_true rfl, Nat.le_of_ble_eq_true rfl⟩ rfl rfl hl.1 (Nat.le_of_ble_eq_true rfl) dL_law_295 ⟨Nat.le_of_ble_eq_true rfl, Nat.le_of_ble_eq_true rfl⟩ (fun r2 M2 H locs hp hw => ?_)
  obtain ⟨hr2, hp2⟩ := hp
  refine lv_icmp_eq (tgt := 1111) hx hb dL_law_298 (by decide) (fun c0 => ?_) (fun c0 => ?_)
  · refine W.widen (k := 367) (n := 4106) (Nat.le_of_ble_eq_true rfl) (Nat.le_of_ble_eq_true rfl) ?_
    exact kk _ _ _ _ hw ⟨hp1.self.off hp2.offc hap, hp2.self⟩ (zi_setRate hZ hnx (xs (nI i + 1).toNatClampNeg) (xs (nI i + 2).toNatClampNeg))
  · exact absurd (hr1.trans hr2.symm) c0

set_option maxHeartbeats 4000000 in
set_option maxRecDepth 100000 in
theorem lc_setRemoteLevel {p : Program} {l : Launch} {e : Env} {s : State} {m : MethodId} {args : Array Value} {below : List Frame} {meth : Method} {c : Code} {H : Heap} {locs : List Loc} {Q : State → Prop} {ls : Array Slot} {G : gG} {sb L : Nat} {xs : Nat → Int32} {ad b : Nat → Nat} {F : Nat → Nat → Int32} {nx ct : Nat} {fl T : Nat → Int32} {len : Nat} {B i : Nat} {M : HM} (C : LC p s m c G sb L xs) (hi : i + 3 ≤ L) (hL : L ≤ 1536) (hB : B + 120 < 2 ^ 30) (hap : Apt ad b) (hw : Wd G (LA s) s.heap M H locs) (hI : LI G M ad b (F, nx, ct, fl, T, len)) (hZ : ZI B (F, nx, ct, fl, T, len)) (hl : lv_has ls 4 [(3, .int (nI i)), (2, .ref (b 0)), (1, .ref (ad 0)), (0, .ref sb)]) (kk : ∀ (z : Sg) (M : HM) (H : Heap) (locs : List Loc), Wd G (LA s) s.heap M H locs → LI G M ad b z → ZI (B + 120) z → W p l e room_1 s m args below meth c H locs 367 4106 Q (F0 m 1111 ls [])) : W p l e room_1 s m args below meth c H locs 367 4106 Q (F0 m 303 ls []) := by
  obtain ⟨cX, hX, hbl⟩ := C
  have hx := cX.1
  have hb := cX.2.1
  have hbA : ¬ LA s sb := Nat.not_le.mpr hbl
  obtain ⟨⟨tr, hC⟩, hRZ⟩ := hI
  have hC : Cl G M M ad F nx ct fl T len tr := hC
  have hin1 : vp_in (nI i + 1) L := by rw [nI_1]; exact vp_in_nI (by omega) (by omega)
  have hin2 : vp_in (nI i + 2) L := by rw [show nI i + (2 : Int32) = nI (i + 2) from nI_add i 2]; exact vp_in_nI (by omega) (by omega)
  have hs8 : nx < 8 ∧ ct ≤ 8 ∧ len ≤ 120 := ⟨hC.1.2.2.2.2.2.2.2.2.2.1, hC.1.2.2.2.2.2.2.2.2.2.2.1, hC.1.2.2.2.2.2.2.2.2.2.2.2.1⟩
  refine lv_aload_n hx hb dL_law_303 rfl (lv_at hl 2 rfl) ?_
  refine lv_aload_n hx hb dL_law_304 rfl (lv_at hl 3 rfl) ?_
  refine lv_iload_n hx hb dL_law_305 rfl (lv_at hl 0 rfl) ?_
  refine lv_iconst (v := 1) hx hb dL_law_306 (by decide) ?_
  refine lv_iadd hx hb dL_law_307 ?_
  refine va_sld hx hb hX hbl hbA hw.2.1 hin1 dL_law_308 ?_
  refine lv_aload_n hx hb dL_law_309 rfl (lv_at hl 3 rfl) ?_
  refine lv_iload_n hx hb dL_law_310 rfl (lv_at hl 0 rfl) ?_
  refine lv_iconst (v := 2) hx hb dL_law_311 (by decide) ?_
  refine lv_iadd hx hb dL_law_312 ?_
  refine va_sld hx hb hX hbl hbA hw.2.1 hin2 dL_law_313 ?_
  refine r_Vi cX hw hC.1.1 rfl [.int (xs (nI i + 1).toNatClampNeg), .int (xs (nI i + 2).toNatClampNeg)] (c_X6_setRemoteLevel l G hC.1 (xs (nI i + 1).toNatClampNeg) (xs (nI i + 2).toNatClampNeg) (hZ.1 0 (by decide))) wM_L_26 mw_X6_setRemoteLevel ⟨Nat.le_of_ble_eq_true rfl, Nat.le_of_ble_eq_true rfl⟩ rfl rfl hl.1 (Nat.le_of_ble_eq_true rfl) dL_law_314 ⟨Nat.le_of_ble_eq_true rfl, Nat.le_of_ble_eq_true rfl⟩ (fun r1 M1 H locs hp hw => ?_)
  obtain ⟨hr1, hp1⟩ := hp
  have hRZ1 := hRZ.off hp1.offc hap
  obtain ⟨sv, sl, iF, iN, at_, it, hR, hsv, hsl, hnx, hcn, hln⟩ := hRZ1
  have hR : Rf G M1 M1 b (F 0) sv sl fl T iF iN (nI ct) (nI len) at_ it := hR
  have hsv : SVr F nx ct sv := hsv
  have hsl : SLr F fl sl := hsl
  have hnx : nx < 8 := hnx
  have hcn : ct ≤ 8 := hcn
  have hln : len ≤ 120 := hln
  refine lv_aload_n hx hb dL_law_317 rfl (lv_at hl 1 rfl) ?_
  refine lv_aload_n hx hb dL_law_318 rfl (lv_at hl 3 rfl) ?_
  refine lv_iload_n hx hb dL_law_319 rfl (lv_at hl 0 rfl) ?_
  refine lv_iconst (v := 1) hx hb dL_law_320 (by decide) ?_
  refine lv_iadd hx hb dL_law_321 ?_
  refine va_sld hx hb hX hbl hbA hw.2.1 hin1 dL_law_322 ?_
  refine lv_aload_n hx hb dL_law_323 rfl (lv_at hl 3 rfl) ?_
  refine lv_iload_n hx hb dL_law_324 rfl (lv_at hl 0 rfl) ?_
  refine lv_iconst (v := 2) hx hb dL_law_325 (by decide) ?_
  refine lv_iadd hx hb dL_law_326 ?_
  refine va_sld hx hb hX hbl hbA hw.2.1 hin2 dL_law_327 ?_
  refine r_Vi cX hw hR.1.1 rfl [.int (xs (nI i + 1).toNatClampNeg), .int (xs (nI i + 2).toNatClampNeg)] (c_X7_setRemoteLevel l G (F := F) (nx := nx) (cn := ct) (ln := len) hR.1 hsv hsl hnx hcn hln (hZ.1 0 (by decide)) (xs (nI i + 1).toNatClampNeg) (xs (nI i + 2).toNatClampNeg)) wM_L_29 mw_X7_setRemoteLevel ⟨Nat.le_of_ble_eq_true rfl, Nat.le_of_ble_eq_true rfl⟩ rfl rfl hl.1 (Nat.le_of_ble_eq_true rfl) dL_law_328 ⟨Nat.le_of_ble_eq_true rfl, Nat.le_of_ble_eq_true rfl⟩ (fun r2 M2 H locs hp hw => ?_)
  obtain ⟨hr2, hp2⟩ := hp
  refine lv_icmp_eq (tgt := 1111) hx hb dL_law_331 (by decide) (fun c0 => ?_) (fun c0 => ?_)
  · refine W.widen (k := 367) (n := 4106) (Nat.le_of_ble_eq_true rfl) (Nat.le_of_ble_eq_true rfl) ?_
    exact kk _ _ _ _ hw ⟨hp1.self.off hp2.offc hap, hp2.self⟩ (zi_setRemoteLevel hZ hnx (xs (nI i + 1).toNatClampNeg) (xs (nI i + 2).toNatClampNeg))
  · exact absurd (hr1.trans hr2.symm) c0

set_option maxHeartbeats 4000000 in
set_option maxRecDepth 100000 in
theorem lc_setMode {p : Program} {l : Launch} {e : Env} {s : State} {m : MethodId} {args : Array Value} {below : List Frame} {meth : Method} {c : Code} {H : Heap} {locs : List Loc} {Q : State → Prop} {ls : Array Slot} {G : gG} {sb L : Nat} {xs : Nat → Int32} {ad b : Nat → Nat} {F : Nat → Nat → Int32} {nx ct : Nat} {fl T : Nat → Int32} {len : Nat} {B i : Nat} {M : HM} (C : LC p s m c G sb L xs) (hi : i + 3 ≤ L) (hL : L ≤ 1536) (hB : B + 120 < 2 ^ 30) (hap : Apt ad b) (hw : Wd G (LA s) s.heap M H locs) (hI : LI G M ad b (F, nx, ct, fl, T, len)) (hZ : ZI B (F, nx, ct, fl, T, len)) (hl : lv_has ls 4 [(3, .int (nI i)), (2, .ref (b 0)), (1, .ref (ad 0)), (0, .ref sb)]) (kk : ∀ (z : Sg) (M : HM) (H : Heap) (locs : List Loc), Wd G (LA s) s.heap M H locs → LI G M ad b z → ZI (B + 120) z → W p l e room_1 s m args below meth c H locs 367 4106 Q (F0 m 1111 ls [])) : W p l e room_1 s m args below meth c H locs 367 4106 Q (F0 m 336 ls []) := by
  obtain ⟨cX, hX, hbl⟩ := C
  have hx := cX.1
  have hb := cX.2.1
  have hbA : ¬ LA s sb := Nat.not_le.mpr hbl
  obtain ⟨⟨tr, hC⟩, hRZ⟩ := hI
  have hC : Cl G M M ad F nx ct fl T len tr := hC
  have hin1 : vp_in (nI i + 1) L := by rw [nI_1]; exact vp_in_nI (by omega) (by omega)
  have hin2 : vp_in (nI i + 2) L := by rw [show nI i + (2 : Int32) = nI (i + 2) from nI_add i 2]; exact vp_in_nI (by omega) (by omega)
  have hs8 : nx < 8 ∧ ct ≤ 8 ∧ len ≤ 120 := ⟨hC.1.2.2.2.2.2.2.2.2.2.1, hC.1.2.2.2.2.2.2.2.2.2.2.1, hC.1.2.2.2.2.2.2.2.2.2.2.2.1⟩
  refine lv_aload_n hx hb dL_law_336 rfl (lv_at hl 2 rfl) ?_
  refine lv_aload_n hx hb dL_law_337 rfl (lv_at hl 3 rfl) ?_
  refine lv_iload_n hx hb dL_law_338 rfl (lv_at hl 0 rfl) ?_
  refine lv_iconst (v := 1) hx hb dL_law_339 (by decide) ?_
  refine lv_iadd hx hb dL_law_340 ?_
  refine va_sld hx hb hX hbl hbA hw.2.1 hin1 dL_law_341 ?_
  refine r_Vi cX hw hC.1.1 rfl [.int (xs (nI i + 1).toNatClampNeg)] (c_X6_setMode l G hC.1 (xs (nI i + 1).toNatClampNeg) (hZ.1 0 (by decide))) wM_L_30 mw_X6_setMode ⟨Nat.le_of_ble_eq_true rfl, Nat.le_of_ble_eq_true rfl⟩ rfl rfl hl.1 (Nat.le_of_ble_eq_true rfl) dL_law_342 ⟨Nat.le_of_ble_eq_true rfl, Nat.le_of_ble_eq_true rfl⟩ (fun r1 M1 H locs hp hw => ?_)
  obtain ⟨hr1, hp1⟩ := hp
  have hRZ1 := hRZ.off hp1.offc hap
  obtain ⟨sv, sl, iF, iN, at_, it, hR, hsv, hsl, hnx, hcn, hln⟩ := hRZ1
  have hR : Rf G M1 M1 b (F 0) sv sl fl T iF iN (nI ct) (nI len) at_ it := hR
  have hsv : SVr F nx ct sv := hsv
  have hsl : SLr F fl sl := hsl
  have hnx : nx < 8 := hnx
  have hcn : ct ≤ 8 := hcn
  have hln : len ≤ 120 := hln
  refine lv_aload_n hx hb dL_law_345 rfl (lv_at hl 1 rfl) ?_
  refine lv_aload_n hx hb dL_law_346 rfl (lv_at hl 3 rfl) ?_
  refine lv_iload_n hx hb dL_law_347 rfl (lv_at hl 0 rfl) ?_
  refine lv_iconst (v := 1) hx hb dL_law_348 (by decide) ?_
  refine lv_iadd hx hb dL_law_349 ?_
  refine va_sld hx hb hX hbl hbA hw.2.1 hin1 dL_law_350 ?_
  refine r_Vi cX hw hR.1.1 rfl [.int (xs (nI i + 1).toNatClampNeg)] (c_X7_setMode l G (F := F) (nx := nx) (cn := ct) (ln := len) hR.1 hsv hsl hnx hcn hln (xs (nI i + 1).toNatClampNeg)) wM_L_34 mw_X7_setMode ⟨Nat.le_of_ble_eq_true rfl, Nat.le_of_ble_eq_true rfl⟩ rfl rfl hl.1 (Nat.le_of_ble_eq_true rfl) dL_law_351 ⟨Nat.le_of_ble_eq_true rfl, Nat.le_of_ble_eq_true rfl⟩ (fun r2 M2 H locs hp hw => ?_)
  obtain ⟨hr2, hp2⟩ := hp
  refine lv_icmp_eq (tgt := 1111) hx hb dL_law_354 (by decide) (fun c0 => ?_) (fun c0 => ?_)
  · refine W.widen (k := 367) (n := 4106) (Nat.le_of_ble_eq_true rfl) (Nat.le_of_ble_eq_true rfl) ?_
    exact kk _ _ _ _ hw ⟨hp1.self.off hp2.offc hap, hp2.self⟩ (zi_setMode hZ hnx (xs (nI i + 1).toNatClampNeg))
  · exact absurd (hr1.trans hr2.symm) c0

set_option maxHeartbeats 4000000 in
set_option maxRecDepth 100000 in
theorem lc_setDetection {p : Program} {l : Launch} {e : Env} {s : State} {m : MethodId} {args : Array Value} {below : List Frame} {meth : Method} {c : Code} {H : Heap} {locs : List Loc} {Q : State → Prop} {ls : Array Slot} {G : gG} {sb L : Nat} {xs : Nat → Int32} {ad b : Nat → Nat} {F : Nat → Nat → Int32} {nx ct : Nat} {fl T : Nat → Int32} {len : Nat} {B i : Nat} {M : HM} (C : LC p s m c G sb L xs) (hi : i + 3 ≤ L) (hL : L ≤ 1536) (hB : B + 120 < 2 ^ 30) (hap : Apt ad b) (hw : Wd G (LA s) s.heap M H locs) (hI : LI G M ad b (F, nx, ct, fl, T, len)) (hZ : ZI B (F, nx, ct, fl, T, len)) (hl : lv_has ls 4 [(3, .int (nI i)), (2, .ref (b 0)), (1, .ref (ad 0)), (0, .ref sb)]) (kk : ∀ (z : Sg) (M : HM) (H : Heap) (locs : List Loc), Wd G (LA s) s.heap M H locs → LI G M ad b z → ZI (B + 120) z → W p l e room_1 s m args below meth c H locs 367 4106 Q (F0 m 1111 ls [])) : W p l e room_1 s m args below meth c H locs 367 4106 Q (F0 m 359 ls []) := by
  obtain ⟨cX, hX, hbl⟩ := C
  have hx := cX.1
  have hb := cX.2.1
  have hbA : ¬ LA s sb := Nat.not_le.mpr hbl
  obtain ⟨⟨tr, hC⟩, hRZ⟩ := hI
  have hC : Cl G M M ad F nx ct fl T len tr := hC
  have hin1 : vp_in (nI i + 1) L := by rw [nI_1]; exact vp_in_nI (by omega) (by omega)
  have hin2 : vp_in (nI i + 2) L := by rw [show nI i + (2 : Int32) = nI (i + 2) from nI_add i 2]; exact vp_in_nI (by omega) (by omega)
  have hs8 : nx < 8 ∧ ct ≤ 8 ∧ len ≤ 120 := ⟨hC.1.2.2.2.2.2.2.2.2.2.1, hC.1.2.2.2.2.2.2.2.2.2.2.1, hC.1.2.2.2.2.2.2.2.2.2.2.2.1⟩
  refine lv_aload_n hx hb dL_law_359 rfl (lv_at hl 2 rfl) ?_
  refine lv_aload_n hx hb dL_law_360 rfl (lv_at hl 3 rfl) ?_
  refine lv_iload_n hx hb dL_law_361 rfl (lv_at hl 0 rfl) ?_
  refine lv_iconst (v := 1) hx hb dL_law_362 (by decide) ?_
  refine lv_iadd hx hb dL_law_363 ?_
  refine va_sld hx hb hX hbl hbA hw.2.1 hin1 dL_law_364 ?_
  refine r_Vi cX hw hC.1.1 rfl [.int (xs (nI i + 1).toNatClampNeg)] (c_X6_setDetection l G hC.1 (xs (nI i + 1).toNatClampNeg) (hZ.1 0 (by decide))) wM_L_35 mw_X6_setDetection ⟨Nat.le_of_ble_eq_true rfl, Nat.le_of_ble_eq_true rfl⟩ rfl rfl hl.1 (Nat.le_of_ble_eq_true rfl) dL_law_365 ⟨Nat.le_of_ble_eq_true rfl, Nat.le_of_ble_eq_true rfl⟩ (fun r1 M1 H locs hp hw => ?_)
  obtain ⟨hr1, hp1⟩ := hp
  have hRZ1 := hRZ.off hp1.offc hap
  obtain ⟨sv, sl, iF, iN, at_, it, hR, hsv, hsl, hnx, hcn, hln⟩ := hRZ1
  have hR : Rf G M1 M1 b (F 0) sv sl fl T iF iN (nI ct) (nI len) at_ it := hR
  have hsv : SVr F nx ct sv := hsv
  have hsl : SLr F fl sl := hsl
  have hnx : nx < 8 := hnx
  have hcn : ct ≤ 8 := hcn
  have hln : len ≤ 120 := hln
  refine lv_aload_n hx hb dL_law_368 rfl (lv_at hl 1 rfl) ?_
  refine lv_aload_n hx hb dL_law_369 rfl (lv_at hl 3 rfl) ?_
  refine lv_iload_n hx hb dL_law_370 rfl (lv_at hl 0 rfl) ?_
  refine lv_iconst (v := 1) hx hb dL_law_371 (by decide) ?_
  refine lv_iadd hx hb dL_law_372 ?_
  refine va_sld hx hb hX hbl hbA hw.2.1 hin1 dL_law_373 ?_
  refine r_Vi cX hw hR.1.1 rfl [.int (xs (nI i + 1).toNatClampNeg)] (c_X7_setDetection l G (F := F) (nx := nx) (cn := ct) (ln := len) hR.1 hsv hsl hnx hcn hln (xs (nI i + 1).toNatClampNeg)) wM_L_38 mw_X7_setDetection ⟨Nat.le_of_ble_eq_true rfl, Nat.le_of_ble_eq_true rfl⟩ rfl rfl hl.1 (Nat.le_of_ble_eq_true rfl) dL_law_374 ⟨Nat.le_of_ble_eq_true rfl, Nat.le_of_ble_eq_true rfl⟩ (fun r2 M2 H locs hp hw => ?_)
  obtain ⟨hr2, hp2⟩ := hp
  refine lv_icmp_eq (tgt := 1111) hx hb dL_law_377 (by decide) (fun c0 => ?_) (fun c0 => ?_)
  · refine W.widen (k := 367) (n := 4106) (Nat.le_of_ble_eq_true rfl) (Nat.le_of_ble_eq_true rfl) ?_
    exact kk _ _ _ _ hw ⟨hp1.self.off hp2.offc hap, hp2.self⟩ (zi_setDetection hZ hnx (xs (nI i + 1).toNatClampNeg))
  · exact absurd (hr1.trans hr2.symm) c0

set_option maxHeartbeats 4000000 in
set_option maxRecDepth 100000 in
theorem lc_setGap {p : Program} {l : Launch} {e : Env} {s : State} {m : MethodId} {args : Array Value} {below : List Frame} {meth : Method} {c : Code} {H : Heap} {locs : List Loc} {Q : State → Prop} {ls : Array Slot} {G : gG} {sb L : Nat} {xs : Nat → Int32} {ad b : Nat → Nat} {F : Nat → Nat → Int32} {nx ct : Nat} {fl T : Nat → Int32} {len : Nat} {B i : Nat} {M : HM} (C : LC p s m c G sb L xs) (hi : i + 3 ≤ L) (hL : L ≤ 1536) (hB : B + 120 < 2 ^ 30) (hap : Apt ad b) (hw : Wd G (LA s) s.heap M H locs) (hI : LI G M ad b (F, nx, ct, fl, T, len)) (hZ : ZI B (F, nx, ct, fl, T, len)) (hl : lv_has ls 4 [(3, .int (nI i)), (2, .ref (b 0)), (1, .ref (ad 0)), (0, .ref sb)]) (kk : ∀ (z : Sg) (M : HM) (H : Heap) (locs : List Loc), Wd G (LA s) s.heap M H locs → LI G M ad b z → ZI (B + 120) z → W p l e room_1 s m args below meth c H locs 367 4106 Q (F0 m 1111 ls [])) : W p l e room_1 s m args below meth c H locs 367 4106 Q (F0 m 382 ls []) := by
  obtain ⟨cX, hX, hbl⟩ := C
  have hx := cX.1
  have hb := cX.2.1
  have hbA : ¬ LA s sb := Nat.not_le.mpr hbl
  obtain ⟨⟨tr, hC⟩, hRZ⟩ := hI
  have hC : Cl G M M ad F nx ct fl T len tr := hC
  have hin1 : vp_in (nI i + 1) L := by rw [nI_1]; exact vp_in_nI (by omega) (by omega)
  have hin2 : vp_in (nI i + 2) L := by rw [show nI i + (2 : Int32) = nI (i + 2) from nI_add i 2]; exact vp_in_nI (by omega) (by omega)
  have hs8 : nx < 8 ∧ ct ≤ 8 ∧ len ≤ 120 := ⟨hC.1.2.2.2.2.2.2.2.2.2.1, hC.1.2.2.2.2.2.2.2.2.2.2.1, hC.1.2.2.2.2.2.2.2.2.2.2.2.1⟩
  refine lv_aload_n hx hb dL_law_382 rfl (lv_at hl 2 rfl) ?_
  refine lv_aload_n hx hb dL_law_383 rfl (lv_at hl 3 rfl) ?_
  refine lv_iload_n hx hb dL_law_384 rfl (lv_at hl 0 rfl) ?_
  refine lv_iconst (v := 1) hx hb dL_law_385 (by decide) ?_
  refine lv_iadd hx hb dL_law_386 ?_
  refine va_sld hx hb hX hbl hbA hw.2.1 hin1 dL_law_387 ?_
  refine r_Vi cX hw hC.1.1 rfl [.int (xs (nI i + 1).toNatClampNeg)] (c_X6_setGap l G hC.1 (xs (nI i + 1).toNatClampNeg) (hZ.1 0 (by decide))) wM_L_39 mw_X6_setGap ⟨Nat.le_of_ble_eq_true rfl, Nat.le_of_ble_eq_true rfl⟩ rfl rfl hl.1 (Nat.le_of_ble_eq_true rfl) dL_law_388 ⟨Nat.le_of_ble_eq_true rfl, Nat.le_of_ble_eq_true rfl⟩ (fun r1 M1 H locs hp hw => ?_)
  obtain ⟨hr1, hp1⟩ := hp
  have hRZ1 := hRZ.off hp1.offc hap
  obtain ⟨sv, sl, iF, iN, at_, it, hR, hsv, hsl, hnx, hcn, hln⟩ := hRZ1
  have hR : Rf G M1 M1 b (F 0) sv sl fl T iF iN (nI ct) (nI len) at_ it := hR
  have hsv : SVr F nx ct sv := hsv
  have hsl : SLr F fl sl := hsl
  have hnx : nx < 8 := hnx
  have hcn : ct ≤ 8 := hcn
  have hln : len ≤ 120 := hln
  refine lv_aload_n hx hb dL_law_391 rfl (lv_at hl 1 rfl) ?_
  refine lv_aload_n hx hb dL_law_392 rfl (lv_at hl 3 rfl) ?_
  refine lv_iload_n hx hb dL_law_393 rfl (lv_at hl 0 rfl) ?_
  refine lv_iconst (v := 1) hx hb dL_law_394 (by decide) ?_
  refine lv_iadd hx hb dL_law_395 ?_
  refine va_sld hx hb hX hbl hbA hw.2.1 hin1 dL_law_396 ?_
  refine r_Vi cX hw hR.1.1 rfl [.int (xs (nI i + 1).toNatClampNeg)] (c_X7_setGap l G (F := F) (nx := nx) (cn := ct) (ln := len) hR.1 hsv hsl hnx hcn hln (xs (nI i + 1).toNatClampNeg)) wM_L_42 mw_X7_setGap ⟨Nat.le_of_ble_eq_true rfl, Nat.le_of_ble_eq_true rfl⟩ rfl rfl hl.1 (Nat.le_of_ble_eq_true rfl) dL_law_397 ⟨Nat.le_of_ble_eq_true rfl, Nat.le_of_ble_eq_true rfl⟩ (fun r2 M2 H locs hp hw => ?_)
  obtain ⟨hr2, hp2⟩ := hp
  refine lv_icmp_eq (tgt := 1111) hx hb dL_law_400 (by decide) (fun c0 => ?_) (fun c0 => ?_)
  · refine W.widen (k := 367) (n := 4106) (Nat.le_of_ble_eq_true rfl) (Nat.le_of_ble_eq_true rfl) ?_
    exact kk _ _ _ _ hw ⟨hp1.self.off hp2.offc hap, hp2.self⟩ (zi_setGap hZ hnx (xs (nI i + 1).toNatClampNeg))
  · exact absurd (hr1.trans hr2.symm) c0

set_option maxHeartbeats 4000000 in
set_option maxRecDepth 100000 in
theorem lc_setShift {p : Program} {l : Launch} {e : Env} {s : State} {m : MethodId} {args : Array Value} {below : List Frame} {meth : Method} {c : Code} {H : Heap} {locs : List Loc} {Q : State → Prop} {ls : Array Slot} {G : gG} {sb L : Nat} {xs : Nat → Int32} {ad b : Nat → Nat} {F : Nat → Nat → Int32} {nx ct : Nat} {fl T : Nat → Int32} {len : Nat} {B i : Nat} {M : HM} (C : LC p s m c G sb L xs) (hi : i + 3 ≤ L) (hL : L ≤ 1536) (hB : B + 120 < 2 ^ 30) (hap : Apt ad b) (hw : Wd G (LA s) s.heap M H locs) (hI : LI G M ad b (F, nx, ct, fl, T, len)) (hZ : ZI B (F, nx, ct, fl, T, len)) (hl : lv_has ls 4 [(3, .int (nI i)), (2, .ref (b 0)), (1, .ref (ad 0)), (0, .ref sb)]) (kk : ∀ (z : Sg) (M : HM) (H : Heap) (locs : List Loc), Wd G (LA s) s.heap M H locs → LI G M ad b z → ZI (B + 120) z → W p l e room_1 s m args below meth c H locs 367 4106 Q (F0 m 1111 ls [])) : W p l e room_1 s m args below meth c H locs 367 4106 Q (F0 m 405 ls []) := by
  obtain ⟨cX, hX, hbl⟩ := C
  have hx := cX.1
  have hb := cX.2.1
  have hbA : ¬ LA s sb := Nat.not_le.mpr hbl
  obtain ⟨⟨tr, hC⟩, hRZ⟩ := hI
  have hC : Cl G M M ad F nx ct fl T len tr := hC
  have hin1 : vp_in (nI i + 1) L := by rw [nI_1]; exact vp_in_nI (by omega) (by omega)
  have hin2 : vp_in (nI i + 2) L := by rw [show nI i + (2 : Int32) = nI (i + 2) from nI_add i 2]; exact vp_in_nI (by omega) (by omega)
  have hs8 : nx < 8 ∧ ct ≤ 8 ∧ len ≤ 120 := ⟨hC.1.2.2.2.2.2.2.2.2.2.1, hC.1.2.2.2.2.2.2.2.2.2.2.1, hC.1.2.2.2.2.2.2.2.2.2.2.2.1⟩
  refine lv_aload_n hx hb dL_law_405 rfl (lv_at hl 2 rfl) ?_
  refine lv_aload_n hx hb dL_law_406 rfl (lv_at hl 3 rfl) ?_
  refine lv_iload_n hx hb dL_law_407 rfl (lv_at hl 0 rfl) ?_
  refine lv_iconst (v := 1) hx hb dL_law_408 (by decide) ?_
  refine lv_iadd hx hb dL_law_409 ?_
  refine va_sld hx hb hX hbl hbA hw.2.1 hin1 dL_law_410 ?_
  refine r_Vi cX hw hC.1.1 rfl [.int (xs (nI i + 1).toNatClampNeg)] (c_X6_setShift l G hC.1 (xs (nI i + 1).toNatClampNeg) (hZ.1 0 (by decide))) wM_L_43 mw_X6_setShift ⟨Nat.le_of_ble_eq_true rfl, Nat.le_of_ble_eq_true rfl⟩ rfl rfl hl.1 (Nat.le_of_ble_eq_true rfl) dL_law_411 ⟨Nat.le_of_ble_eq_true rfl, Nat.le_of_ble_eq_true rfl⟩ (fun r1 M1 H locs hp hw => ?_)
  obtain ⟨hr1, hp1⟩ := hp
  have hRZ1 := hRZ.off hp1.offc hap
  obtain ⟨sv, sl, iF, iN, at_, it, hR, hsv, hsl, hnx, hcn, hln⟩ := hRZ1
  have hR : Rf G M1 M1 b (F 0) sv sl fl T iF iN (nI ct) (nI len) at_ it := hR
  have hsv : SVr F nx ct sv := hsv
  have hsl : SLr F fl sl := hsl
  have hnx : nx < 8 := hnx
  have hcn : ct ≤ 8 := hcn
  have hln : len ≤ 120 := hln
  refine lv_aload_n hx hb dL_law_414 rfl (lv_at hl 1 rfl) ?_
  refine lv_aload_n hx hb dL_law_415 rfl (lv_at hl 3 rfl) ?_
  refine lv_iload_n hx hb dL_law_416 rfl (lv_at hl 0 rfl) ?_
  refine lv_iconst (v := 1) hx hb dL_law_417 (by decide) ?_
  refine lv_iadd hx hb dL_law_418 ?_
  refine va_sld hx hb hX hbl hbA hw.2.1 hin1 dL_law_419 ?_
  refine r_Vi cX hw hR.1.1 rfl [.int (xs (nI i + 1).toNatClampNeg)] (c_X7_setShift l G (F := F) (nx := nx) (cn := ct) (ln := len) hR.1 hsv hsl hnx hcn hln (xs (nI i + 1).toNatClampNeg)) wM_L_46 mw_X7_setShift ⟨Nat.le_of_ble_eq_true rfl, Nat.le_of_ble_eq_true rfl⟩ rfl rfl hl.1 (Nat.le_of_ble_eq_true rfl) dL_law_420 ⟨Nat.le_of_ble_eq_true rfl, Nat.le_of_ble_eq_true rfl⟩ (fun r2 M2 H locs hp hw => ?_)
  obtain ⟨hr2, hp2⟩ := hp
  refine lv_icmp_eq (tgt := 1111) hx hb dL_law_423 (by decide) (fun c0 => ?_) (fun c0 => ?_)
  · refine W.widen (k := 367) (n := 4106) (Nat.le_of_ble_eq_true rfl) (Nat.le_of_ble_eq_true rfl) ?_
    exact kk _ _ _ _ hw ⟨hp1.self.off hp2.offc hap, hp2.self⟩ (zi_setShift hZ hnx (xs (nI i + 1).toNatClampNeg))
  · exact absurd (hr1.trans hr2.symm) c0

set_option maxHeartbeats 4000000 in
set_option maxRecDepth 100000 in
theorem lc_setGenerator {p : Program} {l : Launch} {e : Env} {s : State} {m : MethodId} {args : Array Value} {below : List Frame} {meth : Method} {c : Code} {H : Heap} {locs : List Loc} {Q : State → Prop} {ls : Array Slot} {G : gG} {sb L : Nat} {xs : Nat → Int32} {ad b : Nat → Nat} {F : Nat → Nat → Int32} {nx ct : Nat} {fl T : Nat → Int32} {len : Nat} {B i : Nat} {M : HM} (C : LC p s m c G sb L xs) (hi : i + 3 ≤ L) (hL : L ≤ 1536) (hB : B + 120 < 2 ^ 30) (hap : Apt ad b) (hw : Wd G (LA s) s.heap M H locs) (hI : LI G M ad b (F, nx, ct, fl, T, len)) (hZ : ZI B (F, nx, ct, fl, T, len)) (hl : lv_has ls 4 [(3, .int (nI i)), (2, .ref (b 0)), (1, .ref (ad 0)), (0, .ref sb)]) (kk : ∀ (z : Sg) (M : HM) (H : Heap) (locs : List Loc), Wd G (LA s) s.heap M H locs → LI G M ad b z → ZI (B + 120) z → W p l e room_1 s m args below meth c H locs 367 4106 Q (F0 m 1111 ls [])) : W p l e room_1 s m args below meth c H locs 367 4106 Q (F0 m 428 ls []) := by
  obtain ⟨cX, hX, hbl⟩ := C
  have hx := cX.1
  have hb := cX.2.1
  have hbA : ¬ LA s sb := Nat.not_le.mpr hbl
  obtain ⟨⟨tr, hC⟩, hRZ⟩ := hI
  have hC : Cl G M M ad F nx ct fl T len tr := hC
  have hin1 : vp_in (nI i + 1) L := by rw [nI_1]; exact vp_in_nI (by omega) (by omega)
  have hin2 : vp_in (nI i + 2) L := by rw [show nI i + (2 : Int32) = nI (i + 2) from nI_add i 2]; exact vp_in_nI (by omega) (by omega)
  have hs8 : nx < 8 ∧ ct ≤ 8 ∧ len ≤ 120 := ⟨hC.1.2.2.2.2.2.2.2.2.2.1, hC.1.2.2.2.2.2.2.2.2.2.2.1, hC.1.2.2.2.2.2.2.2.2.2.2.2.1⟩
  refine lv_aload_n hx hb dL_law_428 rfl (lv_at hl 2 rfl) ?_
  refine lv_aload_n hx hb dL_law_429 rfl (lv_at hl 3 rfl) ?_
  refine lv_iload_n hx hb dL_law_430 rfl (lv_at hl 0 rfl) ?_
  refine lv_iconst (v := 1) hx hb dL_law_431 (by decide) ?_
  refine lv_iadd hx hb dL_law_432 ?_
  refine va_sld hx hb hX hbl hbA hw.2.1 hin1 dL_law_433 ?_
  refine r_Vi cX hw hC.1.1 rfl [.int (xs (nI i + 1).toNatClampNeg)] (c_X6_setGenerator l G hC.1 (xs (nI i + 1).toNatClampNeg)) wM_L_47 mw_X6_setGenerator ⟨Nat.le_of_ble_eq_true rfl, Nat.le_of_ble_eq_true rfl⟩ rfl rfl hl.1 (Nat.le_of_ble_eq_true rfl) dL_law_434 ⟨Nat.le_of_ble_eq_true rfl, Nat.le_of_ble_eq_true rfl⟩ (fun r1 M1 H locs hp hw => ?_)
  obtain ⟨hr1, hp1⟩ := hp
  have hRZ1 := hRZ.off hp1.offc hap
  obtain ⟨sv, sl, iF, iN, at_, it, hR, hsv, hsl, hnx, hcn, hln⟩ := hRZ1
  have hR : Rf G M1 M1 b (F 0) sv sl fl T iF iN (nI ct) (nI len) at_ it := hR
  have hsv : SVr F nx ct sv := hsv
  have hsl : SLr F fl sl := hsl
  have hnx : nx < 8 := hnx
  have hcn : ct ≤ 8 := hcn
  have hln : len ≤ 120 := hln
  refine lv_aload_n hx hb dL_law_437 rfl (lv_at hl 1 rfl) ?_
  refine lv_aload_n hx hb dL_law_438 rfl (lv_at hl 3 rfl) ?_
  refine lv_iload_n hx hb dL_law_439 rfl (lv_at hl 0 rfl) ?_
  refine lv_iconst (v := 1) hx hb dL_law_440 (by decide) ?_
  refine lv_iadd hx hb dL_law_441 ?_
  refine va_sld hx hb hX hbl hbA hw.2.1 hin1 dL_law_442 ?_
  refine r_Vi cX hw hR.1.1 rfl [.int (xs (nI i + 1).toNatClampNeg)] (c_X7_setGenerator l G (F := F) (nx := nx) (cn := ct) (ln := len) hR.1 hsv hsl hnx hcn hln (xs (nI i + 1).toNatClampNeg)) wM_L_50 mw_X7_setGenerator ⟨Nat.le_of_ble_eq_true rfl, Nat.le_of_ble_eq_true rfl⟩ rfl rfl hl.1 (Nat.le_of_ble_eq_true rfl) dL_law_443 ⟨Nat.le_of_ble_eq_true rfl, Nat.le_of_ble_eq_true rfl⟩ (fun r2 M2 H locs hp hw => ?_)
  obtain ⟨hr2, hp2⟩ := hp
  refine lv_icmp_eq (tgt := 1111) hx hb dL_law_446 (by decide) (fun c0 => ?_) (fun c0 => ?_)
  · refine W.widen (k := 367) (n := 4106) (Nat.le_of_ble_eq_true rfl) (Nat.le_of_ble_eq_true rfl) ?_
    exact kk _ _ _ _ hw ⟨hp1.self.off hp2.offc hap, hp2.self⟩ (zi_setGenerator hZ hnx (xs (nI i + 1).toNatClampNeg))
  · exact absurd (hr1.trans hr2.symm) c0

set_option maxHeartbeats 4000000 in
set_option maxRecDepth 100000 in
theorem lc_advance {p : Program} {l : Launch} {e : Env} {s : State} {m : MethodId} {args : Array Value} {below : List Frame} {meth : Method} {c : Code} {H : Heap} {locs : List Loc} {Q : State → Prop} {ls : Array Slot} {G : gG} {sb L : Nat} {xs : Nat → Int32} {ad b : Nat → Nat} {F : Nat → Nat → Int32} {nx ct : Nat} {fl T : Nat → Int32} {len : Nat} {B i : Nat} {M : HM} (C : LC p s m c G sb L xs) (hi : i + 3 ≤ L) (hL : L ≤ 1536) (hB : B + 120 < 2 ^ 30) (hap : Apt ad b) (hw : Wd G (LA s) s.heap M H locs) (hI : LI G M ad b (F, nx, ct, fl, T, len)) (hZ : ZI B (F, nx, ct, fl, T, len)) (hl : lv_has ls 4 [(3, .int (nI i)), (2, .ref (b 0)), (1, .ref (ad 0)), (0, .ref sb)]) (kk : ∀ (z : Sg) (M : HM) (H : Heap) (locs : List Loc), Wd G (LA s) s.heap M H locs → LI G M ad b z → ZI (B + 120) z → W p l e room_1 s m args below meth c H locs 367 4106 Q (F0 m 1111 ls [])) : W p l e room_1 s m args below meth c H locs 367 4106 Q (F0 m 451 ls []) := by
  obtain ⟨cX, hX, hbl⟩ := C
  have hx := cX.1
  have hb := cX.2.1
  have hbA : ¬ LA s sb := Nat.not_le.mpr hbl
  obtain ⟨⟨tr, hC⟩, hRZ⟩ := hI
  have hC : Cl G M M ad F nx ct fl T len tr := hC
  have hin1 : vp_in (nI i + 1) L := by rw [nI_1]; exact vp_in_nI (by omega) (by omega)
  have hin2 : vp_in (nI i + 2) L := by rw [show nI i + (2 : Int32) = nI (i + 2) from nI_add i 2]; exact vp_in_nI (by omega) (by omega)
  have hs8 : nx < 8 ∧ ct ≤ 8 ∧ len ≤ 120 := ⟨hC.1.2.2.2.2.2.2.2.2.2.1, hC.1.2.2.2.2.2.2.2.2.2.2.1, hC.1.2.2.2.2.2.2.2.2.2.2.2.1⟩
  refine lv_aload_n hx hb dL_law_451 rfl (lv_at hl 2 rfl) ?_
  refine lv_aload_n hx hb dL_law_452 rfl (lv_at hl 3 rfl) ?_
  refine lv_iload_n hx hb dL_law_453 rfl (lv_at hl 0 rfl) ?_
  refine lv_iconst (v := 1) hx hb dL_law_454 (by decide) ?_
  refine lv_iadd hx hb dL_law_455 ?_
  refine va_sld hx hb hX hbl hbA hw.2.1 hin1 dL_law_456 ?_
  refine r_Vi cX hw hC.1.1 rfl [.int (xs (nI i + 1).toNatClampNeg)] (c_X6_advance l G hC.1 (xs (nI i + 1).toNatClampNeg) (hZ.1 0 (by decide))) wM_L_51 mw_X6_advance ⟨Nat.le_of_ble_eq_true rfl, Nat.le_of_ble_eq_true rfl⟩ rfl rfl hl.1 (Nat.le_of_ble_eq_true rfl) dL_law_457 ⟨Nat.le_of_ble_eq_true rfl, Nat.le_of_ble_eq_true rfl⟩ (fun r1 M1 H locs hp hw => ?_)
  obtain ⟨hr1, hp1⟩ := hp
  have hRZ1 := hRZ.off hp1.offc hap
  obtain ⟨sv, sl, iF, iN, at_, it, hR, hsv, hsl, hnx, hcn, hln⟩ := hRZ1
  have hR : Rf G M1 M1 b (F 0) sv sl fl T iF iN (nI ct) (nI len) at_ it := hR
  have hsv : SVr F nx ct sv := hsv
  have hsl : SLr F fl sl := hsl
  have hnx : nx < 8 := hnx
  have hcn : ct ≤ 8 := hcn
  have hln : len ≤ 120 := hln
  refine lv_aload_n hx hb dL_law_460 rfl (lv_at hl 1 rfl) ?_
  refine lv_aload_n hx hb dL_law_461 rfl (lv_at hl 3 rfl) ?_
  refine lv_iload_n hx hb dL_law_462 rfl (lv_at hl 0 rfl) ?_
  refine lv_iconst (v := 1) hx hb dL_law_463 (by decide) ?_
  refine lv_iadd hx hb dL_law_464 ?_
  refine va_sld hx hb hX hbl hbA hw.2.1 hin1 dL_law_465 ?_
  refine r_Vi cX hw hR.1.1 rfl [.int (xs (nI i + 1).toNatClampNeg)] (c_X7_advance l G (F := F) (nx := nx) (cn := ct) (ln := len) hR.1 hsv hsl hnx hcn hln (hZ.1 0 (by decide)) (xs (nI i + 1).toNatClampNeg)) wM_L_54 mw_X7_advance ⟨Nat.le_of_ble_eq_true rfl, Nat.le_of_ble_eq_true rfl⟩ rfl rfl hl.1 (Nat.le_of_ble_eq_true rfl) dL_law_466 ⟨Nat.le_of_ble_eq_true rfl, Nat.le_of_ble_eq_true rfl⟩ (fun r2 M2 H locs hp hw => ?_)
  obtain ⟨hr2, hp2⟩ := hp
  refine lv_icmp_eq (tgt := 1111) hx hb dL_law_469 (by decide) (fun c0 => ?_) (fun c0 => ?_)
  · refine W.widen (k := 367) (n := 4106) (Nat.le_of_ble_eq_true rfl) (Nat.le_of_ble_eq_true rfl) ?_
    exact kk _ _ _ _ hw ⟨hp1.self.off hp2.offc hap, hp2.self⟩ (zi_advance hZ hnx (xs (nI i + 1).toNatClampNeg))
  · exact absurd (hr1.trans hr2.symm) c0

set_option maxHeartbeats 4000000 in
set_option maxRecDepth 100000 in
theorem lc_send {p : Program} {l : Launch} {e : Env} {s : State} {m : MethodId} {args : Array Value} {below : List Frame} {meth : Method} {c : Code} {H : Heap} {locs : List Loc} {Q : State → Prop} {ls : Array Slot} {G : gG} {sb L : Nat} {xs : Nat → Int32} {ad b : Nat → Nat} {F : Nat → Nat → Int32} {nx ct : Nat} {fl T : Nat → Int32} {len : Nat} {B i : Nat} {M : HM} (C : LC p s m c G sb L xs) (hi : i + 3 ≤ L) (hL : L ≤ 1536) (hB : B + 120 < 2 ^ 30) (hap : Apt ad b) (hw : Wd G (LA s) s.heap M H locs) (hI : LI G M ad b (F, nx, ct, fl, T, len)) (hZ : ZI B (F, nx, ct, fl, T, len)) (hl : lv_has ls 4 [(3, .int (nI i)), (2, .ref (b 0)), (1, .ref (ad 0)), (0, .ref sb)]) (kk : ∀ (z : Sg) (M : HM) (H : Heap) (locs : List Loc), Wd G (LA s) s.heap M H locs → LI G M ad b z → ZI (B + 120) z → W p l e room_1 s m args below meth c H locs 367 4106 Q (F0 m 1111 ls [])) : W p l e room_1 s m args below meth c H locs 367 4106 Q (F0 m 474 ls []) := by
  obtain ⟨cX, hX, hbl⟩ := C
  have hx := cX.1
  have hb := cX.2.1
  have hbA : ¬ LA s sb := Nat.not_le.mpr hbl
  obtain ⟨⟨tr, hC⟩, hRZ⟩ := hI
  have hC : Cl G M M ad F nx ct fl T len tr := hC
  have hin1 : vp_in (nI i + 1) L := by rw [nI_1]; exact vp_in_nI (by omega) (by omega)
  have hin2 : vp_in (nI i + 2) L := by rw [show nI i + (2 : Int32) = nI (i + 2) from nI_add i 2]; exact vp_in_nI (by omega) (by omega)
  have hs8 : nx < 8 ∧ ct ≤ 8 ∧ len ≤ 120 := ⟨hC.1.2.2.2.2.2.2.2.2.2.1, hC.1.2.2.2.2.2.2.2.2.2.2.1, hC.1.2.2.2.2.2.2.2.2.2.2.2.1⟩
  refine lv_aload_n hx hb dL_law_474 rfl (lv_at hl 2 rfl) ?_
  refine lv_aload_n hx hb dL_law_475 rfl (lv_at hl 3 rfl) ?_
  refine lv_iload_n hx hb dL_law_476 rfl (lv_at hl 0 rfl) ?_
  refine lv_iconst (v := 1) hx hb dL_law_477 (by decide) ?_
  refine lv_iadd hx hb dL_law_478 ?_
  refine va_sld hx hb hX hbl hbA hw.2.1 hin1 dL_law_479 ?_
  refine lv_aload_n hx hb dL_law_480 rfl (lv_at hl 3 rfl) ?_
  refine lv_iload_n hx hb dL_law_481 rfl (lv_at hl 0 rfl) ?_
  refine lv_iconst (v := 2) hx hb dL_law_482 (by decide) ?_
  refine lv_iadd hx hb dL_law_483 ?_
  refine va_sld hx hb hX hbl hbA hw.2.1 hin2 dL_law_484 ?_
  refine r_Vi cX hw hC.1.1 rfl [.int (xs (nI i + 1).toNatClampNeg), .int (xs (nI i + 2).toNatClampNeg)] (c_X6_send l G hC.1 (xs (nI i + 1).toNatClampNeg) (xs (nI i + 2).toNatClampNeg) (hZ.1 0 (by decide)) (by omega)) wM_L_55 mw_X6_send ⟨Nat.le_of_ble_eq_true rfl, Nat.le_of_ble_eq_true rfl⟩ rfl rfl hl.1 (Nat.le_of_ble_eq_true rfl) dL_law_485 ⟨Nat.le_of_ble_eq_true rfl, Nat.le_of_ble_eq_true rfl⟩ (fun r1 M1 H locs hp hw => ?_)
  obtain ⟨hr1, hp1⟩ := hp
  have hRZ1 := hRZ.off hp1.offc hap
  obtain ⟨sv, sl, iF, iN, at_, it, hR, hsv, hsl, hnx, hcn, hln⟩ := hRZ1
  have hR : Rf G M1 M1 b (F 0) sv sl fl T iF iN (nI ct) (nI len) at_ it := hR
  have hsv : SVr F nx ct sv := hsv
  have hsl : SLr F fl sl := hsl
  have hnx : nx < 8 := hnx
  have hcn : ct ≤ 8 := hcn
  have hln : len ≤ 120 := hln
  refine lv_aload_n hx hb dL_law_488 rfl (lv_at hl 1 rfl) ?_
  refine lv_aload_n hx hb dL_law_489 rfl (lv_at hl 3 rfl) ?_
  refine lv_iload_n hx hb dL_law_490 rfl (lv_at hl 0 rfl) ?_
  refine lv_iconst (v := 1) hx hb dL_law_491 (by decide) ?_
  refine lv_iadd hx hb dL_law_492 ?_
  refine va_sld hx hb hX hbl hbA hw.2.1 hin1 dL_law_493 ?_
  refine lv_aload_n hx hb dL_law_494 rfl (lv_at hl 3 rfl) ?_
  refine lv_iload_n hx hb dL_law_495 rfl (lv_at hl 0 rfl) ?_
  refine lv_iconst (v := 2) hx hb dL_law_496 (by decide) ?_
  refine lv_iadd hx hb dL_law_497 ?_
  refine va_sld hx hb hX hbl hbA hw.2.1 hin2 dL_law_498 ?_
  refine r_Vi cX hw hR.1.1 rfl [.int (xs (nI i + 1).toNatClampNeg), .int (xs (nI i + 2).toNatClampNeg)] (c_X7_send l G (F := F) (nx := nx) (cn := ct) (ln := len) hR.1 hsv hsl hnx hcn hln (hZ.1 0 (by decide)) (by omega) (xs (nI i + 1).toNatClampNeg) (xs (nI i + 2).toNatClampNeg)) wM_L_58 mw_X7_send ⟨Nat.le_of_ble_eq_true rfl, Nat.le_of_ble_eq_true rfl⟩ rfl rfl hl.1 (Nat.le_of_ble_eq_true rfl) dL_law_499 ⟨Nat.le_of_ble_eq_true rfl, Nat.le_of_ble_eq_true rfl⟩ (fun r2 M2 H locs hp hw => ?_)
  obtain ⟨hr2, hp2⟩ := hp
  refine lv_icmp_eq (tgt := 1111) hx hb dL_law_502 (by decide) (fun c0 => ?_) (fun c0 => ?_)
  · refine W.widen (k := 367) (n := 4106) (Nat.le_of_ble_eq_true rfl) (Nat.le_of_ble_eq_true rfl) ?_
    exact kk _ _ _ _ hw ⟨hp1.self.off hp2.offc hap, hp2.self⟩ (zi_send hZ hnx hB (xs (nI i + 1).toNatClampNeg) (xs (nI i + 2).toNatClampNeg))
  · exact absurd (hr1.trans hr2.symm) c0

set_option maxHeartbeats 4000000 in
set_option maxRecDepth 100000 in
theorem lc_now {p : Program} {l : Launch} {e : Env} {s : State} {m : MethodId} {args : Array Value} {below : List Frame} {meth : Method} {c : Code} {H : Heap} {locs : List Loc} {Q : State → Prop} {ls : Array Slot} {G : gG} {sb L : Nat} {xs : Nat → Int32} {ad b : Nat → Nat} {F : Nat → Nat → Int32} {nx ct : Nat} {fl T : Nat → Int32} {len : Nat} {B i : Nat} {M : HM} (C : LC p s m c G sb L xs) (hi : i + 3 ≤ L) (hL : L ≤ 1536) (hB : B + 120 < 2 ^ 30) (hap : Apt ad b) (hw : Wd G (LA s) s.heap M H locs) (hI : LI G M ad b (F, nx, ct, fl, T, len)) (hZ : ZI B (F, nx, ct, fl, T, len)) (hl : lv_has ls 4 [(3, .int (nI i)), (2, .ref (b 0)), (1, .ref (ad 0)), (0, .ref sb)]) (kk : ∀ (z : Sg) (M : HM) (H : Heap) (locs : List Loc), Wd G (LA s) s.heap M H locs → LI G M ad b z → ZI (B + 120) z → W p l e room_1 s m args below meth c H locs 367 4106 Q (F0 m 1111 ls [])) : W p l e room_1 s m args below meth c H locs 367 4106 Q (F0 m 507 ls []) := by
  obtain ⟨cX, hX, hbl⟩ := C
  have hx := cX.1
  have hb := cX.2.1
  have hbA : ¬ LA s sb := Nat.not_le.mpr hbl
  obtain ⟨⟨tr, hC⟩, hRZ⟩ := hI
  have hC : Cl G M M ad F nx ct fl T len tr := hC
  have hin1 : vp_in (nI i + 1) L := by rw [nI_1]; exact vp_in_nI (by omega) (by omega)
  have hin2 : vp_in (nI i + 2) L := by rw [show nI i + (2 : Int32) = nI (i + 2) from nI_add i 2]; exact vp_in_nI (by omega) (by omega)
  have hs8 : nx < 8 ∧ ct ≤ 8 ∧ len ≤ 120 := ⟨hC.1.2.2.2.2.2.2.2.2.2.1, hC.1.2.2.2.2.2.2.2.2.2.2.1, hC.1.2.2.2.2.2.2.2.2.2.2.2.1⟩
  refine lv_aload_n hx hb dL_law_507 rfl (lv_at hl 2 rfl) ?_
  refine r_Vi cX hw hC.1.1 rfl [] (c_X6_now l G hC.1) wM_L_59 mw_X6_now ⟨Nat.le_of_ble_eq_true rfl, Nat.le_of_ble_eq_true rfl⟩ rfl rfl hl.1 (Nat.le_of_ble_eq_true rfl) dL_law_508 ⟨Nat.le_of_ble_eq_true rfl, Nat.le_of_ble_eq_true rfl⟩ (fun r1 M1 H locs hp hw => ?_)
  obtain ⟨hr1, hp1⟩ := hp
  rw [hp1] at hw
  have hRZ1 := hRZ
  obtain ⟨sv, sl, iF, iN, at_, it, hR, hsv, hsl, hnx, hcn, hln⟩ := hRZ1
  have hR : Rf G M M b (F 0) sv sl fl T iF iN (nI ct) (nI len) at_ it := hR
  have hsv : SVr F nx ct sv := hsv
  have hsl : SLr F fl sl := hsl
  have hnx : nx < 8 := hnx
  have hcn : ct ≤ 8 := hcn
  have hln : len ≤ 120 := hln
  refine lv_aload_n hx hb dL_law_511 rfl (lv_at hl 1 rfl) ?_
  refine r_Vi cX hw hR.1.1 rfl [] (c_X7_now l G (f := F 0) hR.1) wM_L_63 mw_X7_now ⟨Nat.le_of_ble_eq_true rfl, Nat.le_of_ble_eq_true rfl⟩ rfl rfl hl.1 (Nat.le_of_ble_eq_true rfl) dL_law_512 ⟨Nat.le_of_ble_eq_true rfl, Nat.le_of_ble_eq_true rfl⟩ (fun r2 M2 H locs hp hw => ?_)
  obtain ⟨hr2, hp2⟩ := hp
  rw [hp2] at hw
  refine lv_icmp_eq (tgt := 1111) hx hb dL_law_515 (by decide) (fun c0 => ?_) (fun c0 => ?_)
  · refine W.widen (k := 367) (n := 4106) (Nat.le_of_ble_eq_true rfl) (Nat.le_of_ble_eq_true rfl) ?_
    exact kk _ _ _ _ hw ⟨⟨tr, hC⟩, hRZ⟩ (hZ.mono (by omega))
  · exact absurd (hr1.trans hr2.symm) c0

set_option maxHeartbeats 4000000 in
set_option maxRecDepth 100000 in
theorem lc_entryOf {p : Program} {l : Launch} {e : Env} {s : State} {m : MethodId} {args : Array Value} {below : List Frame} {meth : Method} {c : Code} {H : Heap} {locs : List Loc} {Q : State → Prop} {ls : Array Slot} {G : gG} {sb L : Nat} {xs : Nat → Int32} {ad b : Nat → Nat} {F : Nat → Nat → Int32} {nx ct : Nat} {fl T : Nat → Int32} {len : Nat} {B i : Nat} {M : HM} (C : LC p s m c G sb L xs) (hi : i + 3 ≤ L) (hL : L ≤ 1536) (hB : B + 120 < 2 ^ 30) (hap : Apt ad b) (hw : Wd G (LA s) s.heap M H locs) (hI : LI G M ad b (F, nx, ct, fl, T, len)) (hZ : ZI B (F, nx, ct, fl, T, len)) (hl : lv_has ls 4 [(3, .int (nI i)), (2, .ref (b 0)), (1, .ref (ad 0)), (0, .ref sb)]) (kk : ∀ (z : Sg) (M : HM) (H : Heap) (locs : List Loc), Wd G (LA s) s.heap M H locs → LI G M ad b z → ZI (B + 120) z → W p l e room_1 s m args below meth c H locs 367 4106 Q (F0 m 1111 ls [])) : W p l e room_1 s m args below meth c H locs 367 4106 Q (F0 m 520 ls []) := by
  obtain ⟨cX, hX, hbl⟩ := C
  have hx := cX.1
  have hb := cX.2.1
  have hbA : ¬ LA s sb := Nat.not_le.mpr hbl
  obtain ⟨⟨tr, hC⟩, hRZ⟩ := hI
  have hC : Cl G M M ad F nx ct fl T len tr := hC
  have hin1 : vp_in (nI i + 1) L := by rw [nI_1]; exact vp_in_nI (by omega) (by omega)
  have hin2 : vp_in (nI i + 2) L := by rw [show nI i + (2 : Int32) = nI (i + 2) from nI_add i 2]; exact vp_in_nI (by omega) (by omega)
  have hs8 : nx < 8 ∧ ct ≤ 8 ∧ len ≤ 120 := ⟨hC.1.2.2.2.2.2.2.2.2.2.1, hC.1.2.2.2.2.2.2.2.2.2.2.1, hC.1.2.2.2.2.2.2.2.2.2.2.2.1⟩
  refine lv_aload_n hx hb dL_law_520 rfl (lv_at hl 2 rfl) ?_
  refine lv_aload_n hx hb dL_law_521 rfl (lv_at hl 3 rfl) ?_
  refine lv_iload_n hx hb dL_law_522 rfl (lv_at hl 0 rfl) ?_
  refine lv_iconst (v := 1) hx hb dL_law_523 (by decide) ?_
  refine lv_iadd hx hb dL_law_524 ?_
  refine va_sld hx hb hX hbl hbA hw.2.1 hin1 dL_law_525 ?_
  refine r_Vi cX hw hC.1.1 rfl [.int (xs (nI i + 1).toNatClampNeg)] (c_X6_entryOf l G hC.1 (xs (nI i + 1).toNatClampNeg) (hZ.1 0 (by decide))) wM_L_64 mw_X6_entryOf ⟨Nat.le_of_ble_eq_true rfl, Nat.le_of_ble_eq_true rfl⟩ rfl rfl hl.1 (Nat.le_of_ble_eq_true rfl) dL_law_526 ⟨Nat.le_of_ble_eq_true rfl, Nat.le_of_ble_eq_true rfl⟩ (fun r1 M1 H locs hp hw => ?_)
  obtain ⟨hr1, hp1⟩ := hp
  rw [hp1] at hw
  have hRZ1 := hRZ
  obtain ⟨sv, sl, iF, iN, at_, it, hR, hsv, hsl, hnx, hcn, hln⟩ := hRZ1
  have hR : Rf G M M b (F 0) sv sl fl T iF iN (nI ct) (nI len) at_ it := hR
  have hsv : SVr F nx ct sv := hsv
  have hsl : SLr F fl sl := hsl
  have hnx : nx < 8 := hnx
  have hcn : ct ≤ 8 := hcn
  have hln : len ≤ 120 := hln
  refine lv_aload_n hx hb dL_law_529 rfl (lv_at hl 1 rfl) ?_
  refine lv_aload_n hx hb dL_law_530 rfl (lv_at hl 3 rfl) ?_
  refine lv_iload_n hx hb dL_law_531 rfl (lv_at hl 0 rfl) ?_
  refine lv_iconst (v := 1) hx hb dL_law_532 (by decide) ?_
  refine lv_iadd hx hb dL_law_533 ?_
  refine va_sld hx hb hX hbl hbA hw.2.1 hin1 dL_law_534 ?_
  refine r_Vi cX hw hR.1.1 rfl [.int (xs (nI i + 1).toNatClampNeg)] (c_X7_entryOf l G (f := F 0) hR.1 (hZ.1 0 (by decide)) (xs (nI i + 1).toNatClampNeg)) wM_L_67 mw_X7_entryOf ⟨Nat.le_of_ble_eq_true rfl, Nat.le_of_ble_eq_true rfl⟩ rfl rfl hl.1 (Nat.le_of_ble_eq_true rfl) dL_law_535 ⟨Nat.le_of_ble_eq_true rfl, Nat.le_of_ble_eq_true rfl⟩ (fun r2 M2 H locs hp hw => ?_)
  obtain ⟨hr2, hp2⟩ := hp
  rw [hp2] at hw
  refine lv_icmp_eq (tgt := 1111) hx hb dL_law_538 (by decide) (fun c0 => ?_) (fun c0 => ?_)
  · refine W.widen (k := 367) (n := 4106) (Nat.le_of_ble_eq_true rfl) (Nat.le_of_ble_eq_true rfl) ?_
    exact kk _ _ _ _ hw ⟨⟨tr, hC⟩, hRZ⟩ (hZ.mono (by omega))
  · exact absurd (hr1.trans hr2.symm) c0

set_option maxHeartbeats 4000000 in
set_option maxRecDepth 100000 in
theorem lc_isActive {p : Program} {l : Launch} {e : Env} {s : State} {m : MethodId} {args : Array Value} {below : List Frame} {meth : Method} {c : Code} {H : Heap} {locs : List Loc} {Q : State → Prop} {ls : Array Slot} {G : gG} {sb L : Nat} {xs : Nat → Int32} {ad b : Nat → Nat} {F : Nat → Nat → Int32} {nx ct : Nat} {fl T : Nat → Int32} {len : Nat} {B i : Nat} {M : HM} (C : LC p s m c G sb L xs) (hi : i + 3 ≤ L) (hL : L ≤ 1536) (hB : B + 120 < 2 ^ 30) (hap : Apt ad b) (hw : Wd G (LA s) s.heap M H locs) (hI : LI G M ad b (F, nx, ct, fl, T, len)) (hZ : ZI B (F, nx, ct, fl, T, len)) (hl : lv_has ls 4 [(3, .int (nI i)), (2, .ref (b 0)), (1, .ref (ad 0)), (0, .ref sb)]) (kk : ∀ (z : Sg) (M : HM) (H : Heap) (locs : List Loc), Wd G (LA s) s.heap M H locs → LI G M ad b z → ZI (B + 120) z → W p l e room_1 s m args below meth c H locs 367 4106 Q (F0 m 1111 ls [])) : W p l e room_1 s m args below meth c H locs 367 4106 Q (F0 m 543 ls []) := by
  obtain ⟨cX, hX, hbl⟩ := C
  have hx := cX.1
  have hb := cX.2.1
  have hbA : ¬ LA s sb := Nat.not_le.mpr hbl
  obtain ⟨⟨tr, hC⟩, hRZ⟩ := hI
  have hC : Cl G M M ad F nx ct fl T len tr := hC
  have hin1 : vp_in (nI i + 1) L := by rw [nI_1]; exact vp_in_nI (by omega) (by omega)
  have hin2 : vp_in (nI i + 2) L := by rw [show nI i + (2 : Int32) = nI (i + 2) from nI_add i 2]; exact vp_in_nI (by omega) (by omega)
  have hs8 : nx < 8 ∧ ct ≤ 8 ∧ len ≤ 120 := ⟨hC.1.2.2.2.2.2.2.2.2.2.1, hC.1.2.2.2.2.2.2.2.2.2.2.1, hC.1.2.2.2.2.2.2.2.2.2.2.2.1⟩
  refine lv_aload_n hx hb dL_law_543 rfl (lv_at hl 2 rfl) ?_
  refine lv_aload_n hx hb dL_law_544 rfl (lv_at hl 3 rfl) ?_
  refine lv_iload_n hx hb dL_law_545 rfl (lv_at hl 0 rfl) ?_
  refine lv_iconst (v := 1) hx hb dL_law_546 (by decide) ?_
  refine lv_iadd hx hb dL_law_547 ?_
  refine va_sld hx hb hX hbl hbA hw.2.1 hin1 dL_law_548 ?_
  refine r_Vi cX hw hC.1.1 rfl [.int (xs (nI i + 1).toNatClampNeg)] (c_X6_isActive l G hC.1 (xs (nI i + 1).toNatClampNeg) (hZ.1 0 (by decide))) wM_L_68 mw_X6_isActive ⟨Nat.le_of_ble_eq_true rfl, Nat.le_of_ble_eq_true rfl⟩ rfl rfl hl.1 (Nat.le_of_ble_eq_true rfl) dL_law_549 ⟨Nat.le_of_ble_eq_true rfl, Nat.le_of_ble_eq_true rfl⟩ (fun r1 M1 H locs hp hw => ?_)
  obtain ⟨hr1, hp1⟩ := hp
  rw [hp1] at hw
  have hRZ1 := hRZ
  obtain ⟨sv, sl, iF, iN, at_, it, hR, hsv, hsl, hnx, hcn, hln⟩ := hRZ1
  have hR : Rf G M M b (F 0) sv sl fl T iF iN (nI ct) (nI len) at_ it := hR
  have hsv : SVr F nx ct sv := hsv
  have hsl : SLr F fl sl := hsl
  have hnx : nx < 8 := hnx
  have hcn : ct ≤ 8 := hcn
  have hln : len ≤ 120 := hln
  refine lv_aload_n hx hb dL_law_552 rfl (lv_at hl 1 rfl) ?_
  refine lv_aload_n hx hb dL_law_553 rfl (lv_at hl 3 rfl) ?_
  refine lv_iload_n hx hb dL_law_554 rfl (lv_at hl 0 rfl) ?_
  refine lv_iconst (v := 1) hx hb dL_law_555 (by decide) ?_
  refine lv_iadd hx hb dL_law_556 ?_
  refine va_sld hx hb hX hbl hbA hw.2.1 hin1 dL_law_557 ?_
  refine r_Vi cX hw hR.1.1 rfl [.int (xs (nI i + 1).toNatClampNeg)] (c_X7_isActive l G (f := F 0) hR.1 (hZ.1 0 (by decide)) (xs (nI i + 1).toNatClampNeg)) wM_L_71 mw_X7_isActive ⟨Nat.le_of_ble_eq_true rfl, Nat.le_of_ble_eq_true rfl⟩ rfl rfl hl.1 (Nat.le_of_ble_eq_true rfl) dL_law_558 ⟨Nat.le_of_ble_eq_true rfl, Nat.le_of_ble_eq_true rfl⟩ (fun r2 M2 H locs hp hw => ?_)
  obtain ⟨hr2, hp2⟩ := hp
  rw [hp2] at hw
  refine lv_icmp_eq (tgt := 1111) hx hb dL_law_561 (by decide) (fun c0 => ?_) (fun c0 => ?_)
  · refine W.widen (k := 367) (n := 4106) (Nat.le_of_ble_eq_true rfl) (Nat.le_of_ble_eq_true rfl) ?_
    exact kk _ _ _ _ hw ⟨⟨tr, hC⟩, hRZ⟩ (hZ.mono (by omega))
  · exact absurd (hr1.trans hr2.symm) c0

set_option maxHeartbeats 4000000 in
set_option maxRecDepth 100000 in
theorem lc_entryPath {p : Program} {l : Launch} {e : Env} {s : State} {m : MethodId} {args : Array Value} {below : List Frame} {meth : Method} {c : Code} {H : Heap} {locs : List Loc} {Q : State → Prop} {ls : Array Slot} {G : gG} {sb L : Nat} {xs : Nat → Int32} {ad b : Nat → Nat} {F : Nat → Nat → Int32} {nx ct : Nat} {fl T : Nat → Int32} {len : Nat} {B i : Nat} {M : HM} (C : LC p s m c G sb L xs) (hi : i + 3 ≤ L) (hL : L ≤ 1536) (hB : B + 120 < 2 ^ 30) (hap : Apt ad b) (hw : Wd G (LA s) s.heap M H locs) (hI : LI G M ad b (F, nx, ct, fl, T, len)) (hZ : ZI B (F, nx, ct, fl, T, len)) (hl : lv_has ls 4 [(3, .int (nI i)), (2, .ref (b 0)), (1, .ref (ad 0)), (0, .ref sb)]) (kk : ∀ (z : Sg) (M : HM) (H : Heap) (locs : List Loc), Wd G (LA s) s.heap M H locs → LI G M ad b z → ZI (B + 120) z → W p l e room_1 s m args below meth c H locs 367 4106 Q (F0 m 1111 ls [])) : W p l e room_1 s m args below meth c H locs 367 4106 Q (F0 m 566 ls []) := by
  obtain ⟨cX, hX, hbl⟩ := C
  have hx := cX.1
  have hb := cX.2.1
  have hbA : ¬ LA s sb := Nat.not_le.mpr hbl
  obtain ⟨⟨tr, hC⟩, hRZ⟩ := hI
  have hC : Cl G M M ad F nx ct fl T len tr := hC
  have hin1 : vp_in (nI i + 1) L := by rw [nI_1]; exact vp_in_nI (by omega) (by omega)
  have hin2 : vp_in (nI i + 2) L := by rw [show nI i + (2 : Int32) = nI (i + 2) from nI_add i 2]; exact vp_in_nI (by omega) (by omega)
  have hs8 : nx < 8 ∧ ct ≤ 8 ∧ len ≤ 120 := ⟨hC.1.2.2.2.2.2.2.2.2.2.1, hC.1.2.2.2.2.2.2.2.2.2.2.1, hC.1.2.2.2.2.2.2.2.2.2.2.2.1⟩
  refine lv_aload_n hx hb dL_law_566 rfl (lv_at hl 2 rfl) ?_
  refine lv_aload_n hx hb dL_law_567 rfl (lv_at hl 3 rfl) ?_
  refine lv_iload_n hx hb dL_law_568 rfl (lv_at hl 0 rfl) ?_
  refine lv_iconst (v := 1) hx hb dL_law_569 (by decide) ?_
  refine lv_iadd hx hb dL_law_570 ?_
  refine va_sld hx hb hX hbl hbA hw.2.1 hin1 dL_law_571 ?_
  refine r_Vi cX hw hC.1.1 rfl [.int (xs (nI i + 1).toNatClampNeg)] (c_X6_entryPath l G hC.1 (xs (nI i + 1).toNatClampNeg) (hZ.1 0 (by decide))) wM_L_72 mw_X6_entryPath ⟨Nat.le_of_ble_eq_true rfl, Nat.le_of_ble_eq_true rfl⟩ rfl rfl hl.1 (Nat.le_of_ble_eq_true rfl) dL_law_572 ⟨Nat.le_of_ble_eq_true rfl, Nat.le_of_ble_eq_true rfl⟩ (fun r1 M1 H locs hp hw => ?_)
  obtain ⟨hr1, hp1⟩ := hp
  rw [hp1] at hw
  have hRZ1 := hRZ
  obtain ⟨sv, sl, iF, iN, at_, it, hR, hsv, hsl, hnx, hcn, hln⟩ := hRZ1
  have hR : Rf G M M b (F 0) sv sl fl T iF iN (nI ct) (nI len) at_ it := hR
  have hsv : SVr F nx ct sv := hsv
  have hsl : SLr F fl sl := hsl
  have hnx : nx < 8 := hnx
  have hcn : ct ≤ 8 := hcn
  have hln : len ≤ 120 := hln
  refine lv_aload_n hx hb dL_law_575 rfl (lv_at hl 1 rfl) ?_
  refine lv_aload_n hx hb dL_law_576 rfl (lv_at hl 3 rfl) ?_
  refine lv_iload_n hx hb dL_law_577 rfl (lv_at hl 0 rfl) ?_
  refine lv_iconst (v := 1) hx hb dL_law_578 (by decide) ?_
  refine lv_iadd hx hb dL_law_579 ?_
  refine va_sld hx hb hX hbl hbA hw.2.1 hin1 dL_law_580 ?_
  refine r_Vi cX hw hR.1.1 rfl [.int (xs (nI i + 1).toNatClampNeg)] (c_X7_entryPath l G (f := F 0) hR.1 (hZ.1 0 (by decide)) (xs (nI i + 1).toNatClampNeg)) wM_L_75 mw_X7_entryPath ⟨Nat.le_of_ble_eq_true rfl, Nat.le_of_ble_eq_true rfl⟩ rfl rfl hl.1 (Nat.le_of_ble_eq_true rfl) dL_law_581 ⟨Nat.le_of_ble_eq_true rfl, Nat.le_of_ble_eq_true rfl⟩ (fun r2 M2 H locs hp hw => ?_)
  obtain ⟨hr2, hp2⟩ := hp
  rw [hp2] at hw
  refine lv_icmp_eq (tgt := 1111) hx hb dL_law_584 (by decide) (fun c0 => ?_) (fun c0 => ?_)
  · refine W.widen (k := 367) (n := 4106) (Nat.le_of_ble_eq_true rfl) (Nat.le_of_ble_eq_true rfl) ?_
    exact kk _ _ _ _ hw ⟨⟨tr, hC⟩, hRZ⟩ (hZ.mono (by omega))
  · exact absurd (hr1.trans hr2.symm) c0

set_option maxHeartbeats 4000000 in
set_option maxRecDepth 100000 in
theorem lc_ageBit {p : Program} {l : Launch} {e : Env} {s : State} {m : MethodId} {args : Array Value} {below : List Frame} {meth : Method} {c : Code} {H : Heap} {locs : List Loc} {Q : State → Prop} {ls : Array Slot} {G : gG} {sb L : Nat} {xs : Nat → Int32} {ad b : Nat → Nat} {F : Nat → Nat → Int32} {nx ct : Nat} {fl T : Nat → Int32} {len : Nat} {B i : Nat} {M : HM} (C : LC p s m c G sb L xs) (hi : i + 3 ≤ L) (hL : L ≤ 1536) (hB : B + 120 < 2 ^ 30) (hap : Apt ad b) (hw : Wd G (LA s) s.heap M H locs) (hI : LI G M ad b (F, nx, ct, fl, T, len)) (hZ : ZI B (F, nx, ct, fl, T, len)) (hl : lv_has ls 4 [(3, .int (nI i)), (2, .ref (b 0)), (1, .ref (ad 0)), (0, .ref sb)]) (kk : ∀ (z : Sg) (M : HM) (H : Heap) (locs : List Loc), Wd G (LA s) s.heap M H locs → LI G M ad b z → ZI (B + 120) z → W p l e room_1 s m args below meth c H locs 367 4106 Q (F0 m 1111 ls [])) : W p l e room_1 s m args below meth c H locs 367 4106 Q (F0 m 589 ls []) := by
  obtain ⟨cX, hX, hbl⟩ := C
  have hx := cX.1
  have hb := cX.2.1
  have hbA : ¬ LA s sb := Nat.not_le.mpr hbl
  obtain ⟨⟨tr, hC⟩, hRZ⟩ := hI
  have hC : Cl G M M ad F nx ct fl T len tr := hC
  have hin1 : vp_in (nI i + 1) L := by rw [nI_1]; exact vp_in_nI (by omega) (by omega)
  have hin2 : vp_in (nI i + 2) L := by rw [show nI i + (2 : Int32) = nI (i + 2) from nI_add i 2]; exact vp_in_nI (by omega) (by omega)
  have hs8 : nx < 8 ∧ ct ≤ 8 ∧ len ≤ 120 := ⟨hC.1.2.2.2.2.2.2.2.2.2.1, hC.1.2.2.2.2.2.2.2.2.2.2.1, hC.1.2.2.2.2.2.2.2.2.2.2.2.1⟩
  refine lv_aload_n hx hb dL_law_589 rfl (lv_at hl 2 rfl) ?_
  refine lv_aload_n hx hb dL_law_590 rfl (lv_at hl 3 rfl) ?_
  refine lv_iload_n hx hb dL_law_591 rfl (lv_at hl 0 rfl) ?_
  refine lv_iconst (v := 1) hx hb dL_law_592 (by decide) ?_
  refine lv_iadd hx hb dL_law_593 ?_
  refine va_sld hx hb hX hbl hbA hw.2.1 hin1 dL_law_594 ?_
  refine r_Vi cX hw hC.1.1 rfl [.int (xs (nI i + 1).toNatClampNeg)] (c_X6_ageBit l G hC.1 (xs (nI i + 1).toNatClampNeg) (hZ.1 0 (by decide))) wM_L_76 mw_X6_ageBit ⟨Nat.le_of_ble_eq_true rfl, Nat.le_of_ble_eq_true rfl⟩ rfl rfl hl.1 (Nat.le_of_ble_eq_true rfl) dL_law_595 ⟨Nat.le_of_ble_eq_true rfl, Nat.le_of_ble_eq_true rfl⟩ (fun r1 M1 H locs hp hw => ?_)
  obtain ⟨hr1, hp1⟩ := hp
  rw [hp1] at hw
  have hRZ1 := hRZ
  obtain ⟨sv, sl, iF, iN, at_, it, hR, hsv, hsl, hnx, hcn, hln⟩ := hRZ1
  have hR : Rf G M M b (F 0) sv sl fl T iF iN (nI ct) (nI len) at_ it := hR
  have hsv : SVr F nx ct sv := hsv
  have hsl : SLr F fl sl := hsl
  have hnx : nx < 8 := hnx
  have hcn : ct ≤ 8 := hcn
  have hln : len ≤ 120 := hln
  refine lv_aload_n hx hb dL_law_598 rfl (lv_at hl 1 rfl) ?_
  refine lv_aload_n hx hb dL_law_599 rfl (lv_at hl 3 rfl) ?_
  refine lv_iload_n hx hb dL_law_600 rfl (lv_at hl 0 rfl) ?_
  refine lv_iconst (v := 1) hx hb dL_law_601 (by decide) ?_
  refine lv_iadd hx hb dL_law_602 ?_
  refine va_sld hx hb hX hbl hbA hw.2.1 hin1 dL_law_603 ?_
  refine r_Vi cX hw hR.1.1 rfl [.int (xs (nI i + 1).toNatClampNeg)] (c_X7_ageBit l G (f := F 0) hR.1 (hZ.1 0 (by decide)) (xs (nI i + 1).toNatClampNeg)) wM_L_79 mw_X7_ageBit ⟨Nat.le_of_ble_eq_true rfl, Nat.le_of_ble_eq_true rfl⟩ rfl rfl hl.1 (Nat.le_of_ble_eq_true rfl) dL_law_604 ⟨Nat.le_of_ble_eq_true rfl, Nat.le_of_ble_eq_true rfl⟩ (fun r2 M2 H locs hp hw => ?_)
  obtain ⟨hr2, hp2⟩ := hp
  rw [hp2] at hw
  refine lv_icmp_eq (tgt := 1111) hx hb dL_law_607 (by decide) (fun c0 => ?_) (fun c0 => ?_)
  · refine W.widen (k := 367) (n := 4106) (Nat.le_of_ble_eq_true rfl) (Nat.le_of_ble_eq_true rfl) ?_
    exact kk _ _ _ _ hw ⟨⟨tr, hC⟩, hRZ⟩ (hZ.mono (by omega))
  · exact absurd (hr1.trans hr2.symm) c0

set_option maxHeartbeats 4000000 in
set_option maxRecDepth 100000 in
theorem lc_idleTime {p : Program} {l : Launch} {e : Env} {s : State} {m : MethodId} {args : Array Value} {below : List Frame} {meth : Method} {c : Code} {H : Heap} {locs : List Loc} {Q : State → Prop} {ls : Array Slot} {G : gG} {sb L : Nat} {xs : Nat → Int32} {ad b : Nat → Nat} {F : Nat → Nat → Int32} {nx ct : Nat} {fl T : Nat → Int32} {len : Nat} {B i : Nat} {M : HM} (C : LC p s m c G sb L xs) (hi : i + 3 ≤ L) (hL : L ≤ 1536) (hB : B + 120 < 2 ^ 30) (hap : Apt ad b) (hw : Wd G (LA s) s.heap M H locs) (hI : LI G M ad b (F, nx, ct, fl, T, len)) (hZ : ZI B (F, nx, ct, fl, T, len)) (hl : lv_has ls 4 [(3, .int (nI i)), (2, .ref (b 0)), (1, .ref (ad 0)), (0, .ref sb)]) (kk : ∀ (z : Sg) (M : HM) (H : Heap) (locs : List Loc), Wd G (LA s) s.heap M H locs → LI G M ad b z → ZI (B + 120) z → W p l e room_1 s m args below meth c H locs 367 4106 Q (F0 m 1111 ls [])) : W p l e room_1 s m args below meth c H locs 367 4106 Q (F0 m 612 ls []) := by
  obtain ⟨cX, hX, hbl⟩ := C
  have hx := cX.1
  have hb := cX.2.1
  have hbA : ¬ LA s sb := Nat.not_le.mpr hbl
  obtain ⟨⟨tr, hC⟩, hRZ⟩ := hI
  have hC : Cl G M M ad F nx ct fl T len tr := hC
  have hin1 : vp_in (nI i + 1) L := by rw [nI_1]; exact vp_in_nI (by omega) (by omega)
  have hin2 : vp_in (nI i + 2) L := by rw [show nI i + (2 : Int32) = nI (i + 2) from nI_add i 2]; exact vp_in_nI (by omega) (by omega)
  have hs8 : nx < 8 ∧ ct ≤ 8 ∧ len ≤ 120 := ⟨hC.1.2.2.2.2.2.2.2.2.2.1, hC.1.2.2.2.2.2.2.2.2.2.2.1, hC.1.2.2.2.2.2.2.2.2.2.2.2.1⟩
  refine lv_aload_n hx hb dL_law_612 rfl (lv_at hl 2 rfl) ?_
  refine lv_aload_n hx hb dL_law_613 rfl (lv_at hl 3 rfl) ?_
  refine lv_iload_n hx hb dL_law_614 rfl (lv_at hl 0 rfl) ?_
  refine lv_iconst (v := 1) hx hb dL_law_615 (by decide) ?_
  refine lv_iadd hx hb dL_law_616 ?_
  refine va_sld hx hb hX hbl hbA hw.2.1 hin1 dL_law_617 ?_
  refine r_Vi cX hw hC.1.1 rfl [.int (xs (nI i + 1).toNatClampNeg)] (c_X6_idleTime l G hC.1 (xs (nI i + 1).toNatClampNeg) (hZ.1 0 (by decide))) wM_L_80 mw_X6_idleTime ⟨Nat.le_of_ble_eq_true rfl, Nat.le_of_ble_eq_true rfl⟩ rfl rfl hl.1 (Nat.le_of_ble_eq_true rfl) dL_law_618 ⟨Nat.le_of_ble_eq_true rfl, Nat.le_of_ble_eq_true rfl⟩ (fun r1 M1 H locs hp hw => ?_)
  obtain ⟨hr1, hp1⟩ := hp
  rw [hp1] at hw
  have hRZ1 := hRZ
  obtain ⟨sv, sl, iF, iN, at_, it, hR, hsv, hsl, hnx, hcn, hln⟩ := hRZ1
  have hR : Rf G M M b (F 0) sv sl fl T iF iN (nI ct) (nI len) at_ it := hR
  have hsv : SVr F nx ct sv := hsv
  have hsl : SLr F fl sl := hsl
  have hnx : nx < 8 := hnx
  have hcn : ct ≤ 8 := hcn
  have hln : len ≤ 120 := hln
  refine lv_aload_n hx hb dL_law_621 rfl (lv_at hl 1 rfl) ?_
  refine lv_aload_n hx hb dL_law_622 rfl (lv_at hl 3 rfl) ?_
  refine lv_iload_n hx hb dL_law_623 rfl (lv_at hl 0 rfl) ?_
  refine lv_iconst (v := 1) hx hb dL_law_624 (by decide) ?_
  refine lv_iadd hx hb dL_law_625 ?_
  refine va_sld hx hb hX hbl hbA hw.2.1 hin1 dL_law_626 ?_
  refine r_Vi cX hw hR.1.1 rfl [.int (xs (nI i + 1).toNatClampNeg)] (c_X7_idleTime l G (f := F 0) hR.1 (hZ.1 0 (by decide)) (xs (nI i + 1).toNatClampNeg)) wM_L_83 mw_X7_idleTime ⟨Nat.le_of_ble_eq_true rfl, Nat.le_of_ble_eq_true rfl⟩ rfl rfl hl.1 (Nat.le_of_ble_eq_true rfl) dL_law_627 ⟨Nat.le_of_ble_eq_true rfl, Nat.le_of_ble_eq_true rfl⟩ (fun r2 M2 H locs hp hw => ?_)
  obtain ⟨hr2, hp2⟩ := hp
  rw [hp2] at hw
  refine lv_icmp_eq (tgt := 1111) hx hb dL_law_630 (by decide) (fun c0 => ?_) (fun c0 => ?_)
  · refine W.widen (k := 367) (n := 4106) (Nat.le_of_ble_eq_true rfl) (Nat.le_of_ble_eq_true rfl) ?_
    exact kk _ _ _ _ hw ⟨⟨tr, hC⟩, hRZ⟩ (hZ.mono (by omega))
  · exact absurd (hr1.trans hr2.symm) c0

set_option maxHeartbeats 4000000 in
set_option maxRecDepth 100000 in
theorem lc_activeEntries {p : Program} {l : Launch} {e : Env} {s : State} {m : MethodId} {args : Array Value} {below : List Frame} {meth : Method} {c : Code} {H : Heap} {locs : List Loc} {Q : State → Prop} {ls : Array Slot} {G : gG} {sb L : Nat} {xs : Nat → Int32} {ad b : Nat → Nat} {F : Nat → Nat → Int32} {nx ct : Nat} {fl T : Nat → Int32} {len : Nat} {B i : Nat} {M : HM} (C : LC p s m c G sb L xs) (hi : i + 3 ≤ L) (hL : L ≤ 1536) (hB : B + 120 < 2 ^ 30) (hap : Apt ad b) (hw : Wd G (LA s) s.heap M H locs) (hI : LI G M ad b (F, nx, ct, fl, T, len)) (hZ : ZI B (F, nx, ct, fl, T, len)) (hl : lv_has ls 4 [(3, .int (nI i)), (2, .ref (b 0)), (1, .ref (ad 0)), (0, .ref sb)]) (kk : ∀ (z : Sg) (M : HM) (H : Heap) (locs : List Loc), Wd G (LA s) s.heap M H locs → LI G M ad b z → ZI (B + 120) z → W p l e room_1 s m args below meth c H locs 367 4106 Q (F0 m 1111 ls [])) : W p l e room_1 s m args below meth c H locs 367 4106 Q (F0 m 635 ls []) := by
  obtain ⟨cX, hX, hbl⟩ := C
  have hx := cX.1
  have hb := cX.2.1
  have hbA : ¬ LA s sb := Nat.not_le.mpr hbl
  obtain ⟨⟨tr, hC⟩, hRZ⟩ := hI
  have hC : Cl G M M ad F nx ct fl T len tr := hC
  have hin1 : vp_in (nI i + 1) L := by rw [nI_1]; exact vp_in_nI (by omega) (by omega)
  have hin2 : vp_in (nI i + 2) L := by rw [show nI i + (2 : Int32) = nI (i + 2) from nI_add i 2]; exact vp_in_nI (by omega) (by omega)
  have hs8 : nx < 8 ∧ ct ≤ 8 ∧ len ≤ 120 := ⟨hC.1.2.2.2.2.2.2.2.2.2.1, hC.1.2.2.2.2.2.2.2.2.2.2.1, hC.1.2.2.2.2.2.2.2.2.2.2.2.1⟩
  refine lv_aload_n hx hb dL_law_635 rfl (lv_at hl 2 rfl) ?_
  refine r_Vi cX hw hC.1.1 rfl [] (c_X6_activeEntries l G hC.1 (hZ.1 0 (by decide))) wM_L_84 mw_X6_activeEntries ⟨Nat.le_of_ble_eq_true rfl, Nat.le_of_ble_eq_true rfl⟩ rfl rfl hl.1 (Nat.le_of_ble_eq_true rfl) dL_law_636 ⟨Nat.le_of_ble_eq_true rfl, Nat.le_of_ble_eq_true rfl⟩ (fun r1 M1 H locs hp hw => ?_)
  obtain ⟨hr1, hp1⟩ := hp
  rw [hp1] at hw
  have hRZ1 := hRZ
  obtain ⟨sv, sl, iF, iN, at_, it, hR, hsv, hsl, hnx, hcn, hln⟩ := hRZ1
  have hR : Rf G M M b (F 0) sv sl fl T iF iN (nI ct) (nI len) at_ it := hR
  have hsv : SVr F nx ct sv := hsv
  have hsl : SLr F fl sl := hsl
  have hnx : nx < 8 := hnx
  have hcn : ct ≤ 8 := hcn
  have hln : len ≤ 120 := hln
  refine lv_aload_n hx hb dL_law_639 rfl (lv_at hl 1 rfl) ?_
  refine r_Vi cX hw hR.1.1 rfl [] (c_X7_activeEntries l G (f := F 0) hR.1 (hZ.1 0 (by decide))) wM_L_87 mw_X7_activeEntries ⟨Nat.le_of_ble_eq_true rfl, Nat.le_of_ble_eq_true rfl⟩ rfl rfl hl.1 (Nat.le_of_ble_eq_true rfl) dL_law_640 ⟨Nat.le_of_ble_eq_true rfl, Nat.le_of_ble_eq_true rfl⟩ (fun r2 M2 H locs hp hw => ?_)
  obtain ⟨hr2, hp2⟩ := hp
  rw [hp2] at hw
  refine lv_icmp_eq (tgt := 1111) hx hb dL_law_643 (by decide) (fun c0 => ?_) (fun c0 => ?_)
  · refine W.widen (k := 367) (n := 4106) (Nat.le_of_ble_eq_true rfl) (Nat.le_of_ble_eq_true rfl) ?_
    exact kk _ _ _ _ hw ⟨⟨tr, hC⟩, hRZ⟩ (hZ.mono (by omega))
  · exact absurd (hr1.trans hr2.symm) c0

set_option maxHeartbeats 4000000 in
set_option maxRecDepth 100000 in
theorem lc_load {p : Program} {l : Launch} {e : Env} {s : State} {m : MethodId} {args : Array Value} {below : List Frame} {meth : Method} {c : Code} {H : Heap} {locs : List Loc} {Q : State → Prop} {ls : Array Slot} {G : gG} {sb L : Nat} {xs : Nat → Int32} {ad b : Nat → Nat} {F : Nat → Nat → Int32} {nx ct : Nat} {fl T : Nat → Int32} {len : Nat} {B i : Nat} {M : HM} (C : LC p s m c G sb L xs) (hi : i + 3 ≤ L) (hL : L ≤ 1536) (hB : B + 120 < 2 ^ 30) (hap : Apt ad b) (hw : Wd G (LA s) s.heap M H locs) (hI : LI G M ad b (F, nx, ct, fl, T, len)) (hZ : ZI B (F, nx, ct, fl, T, len)) (hl : lv_has ls 4 [(3, .int (nI i)), (2, .ref (b 0)), (1, .ref (ad 0)), (0, .ref sb)]) (kk : ∀ (z : Sg) (M : HM) (H : Heap) (locs : List Loc), Wd G (LA s) s.heap M H locs → LI G M ad b z → ZI (B + 120) z → W p l e room_1 s m args below meth c H locs 367 4106 Q (F0 m 1111 ls [])) : W p l e room_1 s m args below meth c H locs 367 4106 Q (F0 m 648 ls []) := by
  obtain ⟨cX, hX, hbl⟩ := C
  have hx := cX.1
  have hb := cX.2.1
  have hbA : ¬ LA s sb := Nat.not_le.mpr hbl
  obtain ⟨⟨tr, hC⟩, hRZ⟩ := hI
  have hC : Cl G M M ad F nx ct fl T len tr := hC
  have hin1 : vp_in (nI i + 1) L := by rw [nI_1]; exact vp_in_nI (by omega) (by omega)
  have hin2 : vp_in (nI i + 2) L := by rw [show nI i + (2 : Int32) = nI (i + 2) from nI_add i 2]; exact vp_in_nI (by omega) (by omega)
  have hs8 : nx < 8 ∧ ct ≤ 8 ∧ len ≤ 120 := ⟨hC.1.2.2.2.2.2.2.2.2.2.1, hC.1.2.2.2.2.2.2.2.2.2.2.1, hC.1.2.2.2.2.2.2.2.2.2.2.2.1⟩
  refine lv_aload_n hx hb dL_law_648 rfl (lv_at hl 2 rfl) ?_
  refine lv_aload_n hx hb dL_law_649 rfl (lv_at hl 3 rfl) ?_
  refine lv_iload_n hx hb dL_law_650 rfl (lv_at hl 0 rfl) ?_
  refine lv_iconst (v := 1) hx hb dL_law_651 (by decide) ?_
  refine lv_iadd hx hb dL_law_652 ?_
  refine va_sld hx hb hX hbl hbA hw.2.1 hin1 dL_law_653 ?_
  refine r_Vi cX hw hC.1.1 rfl [.int (xs (nI i + 1).toNatClampNeg)] (c_X6_load l G hC.1 (xs (nI i + 1).toNatClampNeg) (hZ.1 0 (by decide))) wM_L_88 mw_X6_load ⟨Nat.le_of_ble_eq_true rfl, Nat.le_of_ble_eq_true rfl⟩ rfl rfl hl.1 (Nat.le_of_ble_eq_true rfl) dL_law_654 ⟨Nat.le_of_ble_eq_true rfl, Nat.le_of_ble_eq_true rfl⟩ (fun r1 M1 H locs hp hw => ?_)
  obtain ⟨hr1, hp1⟩ := hp
  rw [hp1] at hw
  have hRZ1 := hRZ
  obtain ⟨sv, sl, iF, iN, at_, it, hR, hsv, hsl, hnx, hcn, hln⟩ := hRZ1
  have hR : Rf G M M b (F 0) sv sl fl T iF iN (nI ct) (nI len) at_ it := hR
  have hsv : SVr F nx ct sv := hsv
  have hsl : SLr F fl sl := hsl
  have hnx : nx < 8 := hnx
  have hcn : ct ≤ 8 := hcn
  have hln : len ≤ 120 := hln
  refine lv_aload_n hx hb dL_law_657 rfl (lv_at hl 1 rfl) ?_
  refine lv_aload_n hx hb dL_law_658 rfl (lv_at hl 3 rfl) ?_
  refine lv_iload_n hx hb dL_law_659 rfl (lv_at hl 0 rfl) ?_
  refine lv_iconst (v := 1) hx hb dL_law_660 (by decide) ?_
  refine lv_iadd hx hb dL_law_661 ?_
  refine va_sld hx hb hX hbl hbA hw.2.1 hin1 dL_law_662 ?_
  refine r_Vi cX hw hR.1.1 rfl [.int (xs (nI i + 1).toNatClampNeg)] (c_X7_load l G (f := F 0) hR.1 (hZ.1 0 (by decide)) (xs (nI i + 1).toNatClampNeg)) wM_L_91 mw_X7_load ⟨Nat.le_of_ble_eq_true rfl, Nat.le_of_ble_eq_true rfl⟩ rfl rfl hl.1 (Nat.le_of_ble_eq_true rfl) dL_law_663 ⟨Nat.le_of_ble_eq_true rfl, Nat.le_of_ble_eq_true rfl⟩ (fun r2 M2 H locs hp hw => ?_)
  obtain ⟨hr2, hp2⟩ := hp
  rw [hp2] at hw
  refine lv_icmp_eq (tgt := 1111) hx hb dL_law_666 (by decide) (fun c0 => ?_) (fun c0 => ?_)
  · refine W.widen (k := 367) (n := 4106) (Nat.le_of_ble_eq_true rfl) (Nat.le_of_ble_eq_true rfl) ?_
    exact kk _ _ _ _ hw ⟨⟨tr, hC⟩, hRZ⟩ (hZ.mono (by omega))
  · exact absurd (hr1.trans hr2.symm) c0

set_option maxHeartbeats 4000000 in
set_option maxRecDepth 100000 in
theorem lc_metric {p : Program} {l : Launch} {e : Env} {s : State} {m : MethodId} {args : Array Value} {below : List Frame} {meth : Method} {c : Code} {H : Heap} {locs : List Loc} {Q : State → Prop} {ls : Array Slot} {G : gG} {sb L : Nat} {xs : Nat → Int32} {ad b : Nat → Nat} {F : Nat → Nat → Int32} {nx ct : Nat} {fl T : Nat → Int32} {len : Nat} {B i : Nat} {M : HM} (C : LC p s m c G sb L xs) (hi : i + 3 ≤ L) (hL : L ≤ 1536) (hB : B + 120 < 2 ^ 30) (hap : Apt ad b) (hw : Wd G (LA s) s.heap M H locs) (hI : LI G M ad b (F, nx, ct, fl, T, len)) (hZ : ZI B (F, nx, ct, fl, T, len)) (hl : lv_has ls 4 [(3, .int (nI i)), (2, .ref (b 0)), (1, .ref (ad 0)), (0, .ref sb)]) (kk : ∀ (z : Sg) (M : HM) (H : Heap) (locs : List Loc), Wd G (LA s) s.heap M H locs → LI G M ad b z → ZI (B + 120) z → W p l e room_1 s m args below meth c H locs 367 4106 Q (F0 m 1111 ls [])) : W p l e room_1 s m args below meth c H locs 367 4106 Q (F0 m 671 ls []) := by
  obtain ⟨cX, hX, hbl⟩ := C
  have hx := cX.1
  have hb := cX.2.1
  have hbA : ¬ LA s sb := Nat.not_le.mpr hbl
  obtain ⟨⟨tr, hC⟩, hRZ⟩ := hI
  have hC : Cl G M M ad F nx ct fl T len tr := hC
  have hin1 : vp_in (nI i + 1) L := by rw [nI_1]; exact vp_in_nI (by omega) (by omega)
  have hin2 : vp_in (nI i + 2) L := by rw [show nI i + (2 : Int32) = nI (i + 2) from nI_add i 2]; exact vp_in_nI (by omega) (by omega)
  have hs8 : nx < 8 ∧ ct ≤ 8 ∧ len ≤ 120 := ⟨hC.1.2.2.2.2.2.2.2.2.2.1, hC.1.2.2.2.2.2.2.2.2.2.2.1, hC.1.2.2.2.2.2.2.2.2.2.2.2.1⟩
  refine lv_aload_n hx hb dL_law_671 rfl (lv_at hl 2 rfl) ?_
  refine lv_aload_n hx hb dL_law_672 rfl (lv_at hl 3 rfl) ?_
  refine lv_iload_n hx hb dL_law_673 rfl (lv_at hl 0 rfl) ?_
  refine lv_iconst (v := 1) hx hb dL_law_674 (by decide) ?_
  refine lv_iadd hx hb dL_law_675 ?_
  refine va_sld hx hb hX hbl hbA hw.2.1 hin1 dL_law_676 ?_
  refine r_Vi cX hw hC.1.1 rfl [.int (xs (nI i + 1).toNatClampNeg)] (c_X6_metric l G hC.1 (xs (nI i + 1).toNatClampNeg) (hZ.1 0 (by decide))) wM_L_92 mw_X6_metric ⟨Nat.le_of_ble_eq_true rfl, Nat.le_of_ble_eq_true rfl⟩ rfl rfl hl.1 (Nat.le_of_ble_eq_true rfl) dL_law_677 ⟨Nat.le_of_ble_eq_true rfl, Nat.le_of_ble_eq_true rfl⟩ (fun r1 M1 H locs hp hw => ?_)
  obtain ⟨hr1, hp1⟩ := hp
  rw [hp1] at hw
  have hRZ1 := hRZ
  obtain ⟨sv, sl, iF, iN, at_, it, hR, hsv, hsl, hnx, hcn, hln⟩ := hRZ1
  have hR : Rf G M M b (F 0) sv sl fl T iF iN (nI ct) (nI len) at_ it := hR
  have hsv : SVr F nx ct sv := hsv
  have hsl : SLr F fl sl := hsl
  have hnx : nx < 8 := hnx
  have hcn : ct ≤ 8 := hcn
  have hln : len ≤ 120 := hln
  refine lv_aload_n hx hb dL_law_680 rfl (lv_at hl 1 rfl) ?_
  refine lv_aload_n hx hb dL_law_681 rfl (lv_at hl 3 rfl) ?_
  refine lv_iload_n hx hb dL_law_682 rfl (lv_at hl 0 rfl) ?_
  refine lv_iconst (v := 1) hx hb dL_law_683 (by decide) ?_
  refine lv_iadd hx hb dL_law_684 ?_
  refine va_sld hx hb hX hbl hbA hw.2.1 hin1 dL_law_685 ?_
  refine r_Vi cX hw hR.1.1 rfl [.int (xs (nI i + 1).toNatClampNeg)] (c_X7_metric l G (f := F 0) hR.1 (hZ.1 0 (by decide)) (xs (nI i + 1).toNatClampNeg)) wM_L_95 mw_X7_metric ⟨Nat.le_of_ble_eq_true rfl, Nat.le_of_ble_eq_true rfl⟩ rfl rfl hl.1 (Nat.le_of_ble_eq_true rfl) dL_law_686 ⟨Nat.le_of_ble_eq_true rfl, Nat.le_of_ble_eq_true rfl⟩ (fun r2 M2 H locs hp hw => ?_)
  obtain ⟨hr2, hp2⟩ := hp
  rw [hp2] at hw
  refine lv_icmp_eq (tgt := 1111) hx hb dL_law_689 (by decide) (fun c0 => ?_) (fun c0 => ?_)
  · refine W.widen (k := 367) (n := 4106) (Nat.le_of_ble_eq_true rfl) (Nat.le_of_ble_eq_true rfl) ?_
    exact kk _ _ _ _ hw ⟨⟨tr, hC⟩, hRZ⟩ (hZ.mono (by omega))
  · exact absurd (hr1.trans hr2.symm) c0

set_option maxHeartbeats 4000000 in
set_option maxRecDepth 100000 in
theorem lc_busyTime {p : Program} {l : Launch} {e : Env} {s : State} {m : MethodId} {args : Array Value} {below : List Frame} {meth : Method} {c : Code} {H : Heap} {locs : List Loc} {Q : State → Prop} {ls : Array Slot} {G : gG} {sb L : Nat} {xs : Nat → Int32} {ad b : Nat → Nat} {F : Nat → Nat → Int32} {nx ct : Nat} {fl T : Nat → Int32} {len : Nat} {B i : Nat} {M : HM} (C : LC p s m c G sb L xs) (hi : i + 3 ≤ L) (hL : L ≤ 1536) (hB : B + 120 < 2 ^ 30) (hap : Apt ad b) (hw : Wd G (LA s) s.heap M H locs) (hI : LI G M ad b (F, nx, ct, fl, T, len)) (hZ : ZI B (F, nx, ct, fl, T, len)) (hl : lv_has ls 4 [(3, .int (nI i)), (2, .ref (b 0)), (1, .ref (ad 0)), (0, .ref sb)]) (kk : ∀ (z : Sg) (M : HM) (H : Heap) (locs : List Loc), Wd G (LA s) s.heap M H locs → LI G M ad b z → ZI (B + 120) z → W p l e room_1 s m args below meth c H locs 367 4106 Q (F0 m 1111 ls [])) : W p l e room_1 s m args below meth c H locs 367 4106 Q (F0 m 694 ls []) := by
  obtain ⟨cX, hX, hbl⟩ := C
  have hx := cX.1
  have hb := cX.2.1
  have hbA : ¬ LA s sb := Nat.not_le.mpr hbl
  obtain ⟨⟨tr, hC⟩, hRZ⟩ := hI
  have hC : Cl G M M ad F nx ct fl T len tr := hC
  have hin1 : vp_in (nI i + 1) L := by rw [nI_1]; exact vp_in_nI (by omega) (by omega)
  have hin2 : vp_in (nI i + 2) L := by rw [show nI i + (2 : Int32) = nI (i + 2) from nI_add i 2]; exact vp_in_nI (by omega) (by omega)
  have hs8 : nx < 8 ∧ ct ≤ 8 ∧ len ≤ 120 := ⟨hC.1.2.2.2.2.2.2.2.2.2.1, hC.1.2.2.2.2.2.2.2.2.2.2.1, hC.1.2.2.2.2.2.2.2.2.2.2.2.1⟩
  refine lv_aload_n hx hb dL_law_694 rfl (lv_at hl 2 rfl) ?_
  refine lv_aload_n hx hb dL_law_695 rfl (lv_at hl 3 rfl) ?_
  refine lv_iload_n hx hb dL_law_696 rfl (lv_at hl 0 rfl) ?_
  refine lv_iconst (v := 1) hx hb dL_law_697 (by decide) ?_
  refine lv_iadd hx hb dL_law_698 ?_
  refine va_sld hx hb hX hbl hbA hw.2.1 hin1 dL_law_699 ?_
  refine r_Vi cX hw hC.1.1 rfl [.int (xs (nI i + 1).toNatClampNeg)] (c_X6_busyTime l G hC.1 (xs (nI i + 1).toNatClampNeg) (hZ.1 0 (by decide))) wM_L_96 mw_X6_busyTime ⟨Nat.le_of_ble_eq_true rfl, Nat.le_of_ble_eq_true rfl⟩ rfl rfl hl.1 (Nat.le_of_ble_eq_true rfl) dL_law_700 ⟨Nat.le_of_ble_eq_true rfl, Nat.le_of_ble_eq_true rfl⟩ (fun r1 M1 H locs hp hw => ?_)
  obtain ⟨hr1, hp1⟩ := hp
  rw [hp1] at hw
  have hRZ1 := hRZ
  obtain ⟨sv, sl, iF, iN, at_, it, hR, hsv, hsl, hnx, hcn, hln⟩ := hRZ1
  have hR : Rf G M M b (F 0) sv sl fl T iF iN (nI ct) (nI len) at_ it := hR
  have hsv : SVr F nx ct sv := hsv
  have hsl : SLr F fl sl := hsl
  have hnx : nx < 8 := hnx
  have hcn : ct ≤ 8 := hcn
  have hln : len ≤ 120 := hln
  refine lv_aload_n hx hb dL_law_703 rfl (lv_at hl 1 rfl) ?_
  refine lv_aload_n hx hb dL_law_704 rfl (lv_at hl 3 rfl) ?_
  refine lv_iload_n hx hb dL_law_705 rfl (lv_at hl 0 rfl) ?_
  refine lv_iconst (v := 1) hx hb dL_law_706 (by decide) ?_
  refine lv_iadd hx hb dL_law_707 ?_
  refine va_sld hx hb hX hbl hbA hw.2.1 hin1 dL_law_708 ?_
  refine r_Vi cX hw hR.1.1 rfl [.int (xs (nI i + 1).toNatClampNeg)] (c_X7_busyTime l G (f := F 0) hR.1 (hZ.1 0 (by decide)) (xs (nI i + 1).toNatClampNeg)) wM_L_99 mw_X7_busyTime ⟨Nat.le_of_ble_eq_true rfl, Nat.le_of_ble_eq_true rfl⟩ rfl rfl hl.1 (Nat.le_of_ble_eq_true rfl) dL_law_709 ⟨Nat.le_of_ble_eq_true rfl, Nat.le_of_ble_eq_true rfl⟩ (fun r2 M2 H locs hp hw => ?_)
  obtain ⟨hr2, hp2⟩ := hp
  rw [hp2] at hw
  refine lv_icmp_eq (tgt := 1111) hx hb dL_law_712 (by decide) (fun c0 => ?_) (fun c0 => ?_)
  · refine W.widen (k := 367) (n := 4106) (Nat.le_of_ble_eq_true rfl) (Nat.le_of_ble_eq_true rfl) ?_
    exact kk _ _ _ _ hw ⟨⟨tr, hC⟩, hRZ⟩ (hZ.mono (by omega))
  · exact absurd (hr1.trans hr2.symm) c0

set_option maxHeartbeats 4000000 in
set_option maxRecDepth 100000 in
theorem lc_latency {p : Program} {l : Launch} {e : Env} {s : State} {m : MethodId} {args : Array Value} {below : List Frame} {meth : Method} {c : Code} {H : Heap} {locs : List Loc} {Q : State → Prop} {ls : Array Slot} {G : gG} {sb L : Nat} {xs : Nat → Int32} {ad b : Nat → Nat} {F : Nat → Nat → Int32} {nx ct : Nat} {fl T : Nat → Int32} {len : Nat} {B i : Nat} {M : HM} (C : LC p s m c G sb L xs) (hi : i + 3 ≤ L) (hL : L ≤ 1536) (hB : B + 120 < 2 ^ 30) (hap : Apt ad b) (hw : Wd G (LA s) s.heap M H locs) (hI : LI G M ad b (F, nx, ct, fl, T, len)) (hZ : ZI B (F, nx, ct, fl, T, len)) (hl : lv_has ls 4 [(3, .int (nI i)), (2, .ref (b 0)), (1, .ref (ad 0)), (0, .ref sb)]) (kk : ∀ (z : Sg) (M : HM) (H : Heap) (locs : List Loc), Wd G (LA s) s.heap M H locs → LI G M ad b z → ZI (B + 120) z → W p l e room_1 s m args below meth c H locs 367 4106 Q (F0 m 1111 ls [])) : W p l e room_1 s m args below meth c H locs 367 4106 Q (F0 m 717 ls []) := by
  obtain ⟨cX, hX, hbl⟩ := C
  have hx := cX.1
  have hb := cX.2.1
  have hbA : ¬ LA s sb := Nat.not_le.mpr hbl
  obtain ⟨⟨tr, hC⟩, hRZ⟩ := hI
  have hC : Cl G M M ad F nx ct fl T len tr := hC
  have hin1 : vp_in (nI i + 1) L := by rw [nI_1]; exact vp_in_nI (by omega) (by omega)
  have hin2 : vp_in (nI i + 2) L := by rw [show nI i + (2 : Int32) = nI (i + 2) from nI_add i 2]; exact vp_in_nI (by omega) (by omega)
  have hs8 : nx < 8 ∧ ct ≤ 8 ∧ len ≤ 120 := ⟨hC.1.2.2.2.2.2.2.2.2.2.1, hC.1.2.2.2.2.2.2.2.2.2.2.1, hC.1.2.2.2.2.2.2.2.2.2.2.2.1⟩
  refine lv_aload_n hx hb dL_law_717 rfl (lv_at hl 2 rfl) ?_
  refine lv_aload_n hx hb dL_law_718 rfl (lv_at hl 3 rfl) ?_
  refine lv_iload_n hx hb dL_law_719 rfl (lv_at hl 0 rfl) ?_
  refine lv_iconst (v := 1) hx hb dL_law_720 (by decide) ?_
  refine lv_iadd hx hb dL_law_721 ?_
  refine va_sld hx hb hX hbl hbA hw.2.1 hin1 dL_law_722 ?_
  refine lv_aload_n hx hb dL_law_723 rfl (lv_at hl 3 rfl) ?_
  refine lv_iload_n hx hb dL_law_724 rfl (lv_at hl 0 rfl) ?_
  refine lv_iconst (v := 2) hx hb dL_law_725 (by decide) ?_
  refine lv_iadd hx hb dL_law_726 ?_
  refine va_sld hx hb hX hbl hbA hw.2.1 hin2 dL_law_727 ?_
  refine r_Vi cX hw hC.1.1 rfl [.int (xs (nI i + 1).toNatClampNeg), .int (xs (nI i + 2).toNatClampNeg)] (c_X6_latency l G hC.1 (xs (nI i + 1).toNatClampNeg) (xs (nI i + 2).toNatClampNeg) (hZ.1 0 (by decide))) wM_L_100 mw_X6_latency ⟨Nat.le_of_ble_eq_true rfl, Nat.le_of_ble_eq_true rfl⟩ rfl rfl hl.1 (Nat.le_of_ble_eq_true rfl) dL_law_728 ⟨Nat.le_of_ble_eq_true rfl, Nat.le_of_ble_eq_true rfl⟩ (fun r1 M1 H locs hp hw => ?_)
  obtain ⟨hr1, hp1⟩ := hp
  rw [hp1] at hw
  have hRZ1 := hRZ
  obtain ⟨sv, sl, iF, iN, at_, it, hR, hsv, hsl, hnx, hcn, hln⟩ := hRZ1
  have hR : Rf G M M b (F 0) sv sl fl T iF iN (nI ct) (nI len) at_ it := hR
  have hsv : SVr F nx ct sv := hsv
  have hsl : SLr F fl sl := hsl
  have hnx : nx < 8 := hnx
  have hcn : ct ≤ 8 := hcn
  have hln : len ≤ 120 := hln
  refine lv_aload_n hx hb dL_law_731 rfl (lv_at hl 1 rfl) ?_
  refine lv_aload_n hx hb dL_law_732 rfl (lv_at hl 3 rfl) ?_
  refine lv_iload_n hx hb dL_law_733 rfl (lv_at hl 0 rfl) ?_
  refine lv_iconst (v := 1) hx hb dL_law_734 (by decide) ?_
  refine lv_iadd hx hb dL_law_735 ?_
  refine va_sld hx hb hX hbl hbA hw.2.1 hin1 dL_law_736 ?_
  refine lv_aload_n hx hb dL_law_737 rfl (lv_at hl 3 rfl) ?_
  refine lv_iload_n hx hb dL_law_738 rfl (lv_at hl 0 rfl) ?_
  refine lv_iconst (v := 2) hx hb dL_law_739 (by decide) ?_
  refine lv_iadd hx hb dL_law_740 ?_
  refine va_sld hx hb hX hbl hbA hw.2.1 hin2 dL_law_741 ?_
  refine r_Vi cX hw hR.1.1 rfl [.int (xs (nI i + 1).toNatClampNeg), .int (xs (nI i + 2).toNatClampNeg)] (c_X7_latency l G (f := F 0) hR.1 (hZ.1 0 (by decide)) (xs (nI i + 1).toNatClampNeg) (xs (nI i + 2).toNatClampNeg)) wM_L_103 mw_X7_latency ⟨Nat.le_of_ble_eq_true rfl, Nat.le_of_ble_eq_true rfl⟩ rfl rfl hl.1 (Nat.le_of_ble_eq_true rfl) dL_law_742 ⟨Nat.le_of_ble_eq_true rfl, Nat.le_of_ble_eq_true rfl⟩ (fun r2 M2 H locs hp hw => ?_)
  obtain ⟨hr2, hp2⟩ := hp
  rw [hp2] at hw
  refine lv_icmp_eq (tgt := 1111) hx hb dL_law_745 (by decide) (fun c0 => ?_) (fun c0 => ?_)
  · refine W.widen (k := 367) (n := 4106) (Nat.le_of_ble_eq_true rfl) (Nat.le_of_ble_eq_true rfl) ?_
    exact kk _ _ _ _ hw ⟨⟨tr, hC⟩, hRZ⟩ (hZ.mono (by omega))
  · exact absurd (hr1.trans hr2.symm) c0

set_option maxHeartbeats 4000000 in
set_option maxRecDepth 100000 in
theorem lc_safeGap {p : Program} {l : Launch} {e : Env} {s : State} {m : MethodId} {args : Array Value} {below : List Frame} {meth : Method} {c : Code} {H : Heap} {locs : List Loc} {Q : State → Prop} {ls : Array Slot} {G : gG} {sb L : Nat} {xs : Nat → Int32} {ad b : Nat → Nat} {F : Nat → Nat → Int32} {nx ct : Nat} {fl T : Nat → Int32} {len : Nat} {B i : Nat} {M : HM} (C : LC p s m c G sb L xs) (hi : i + 3 ≤ L) (hL : L ≤ 1536) (hB : B + 120 < 2 ^ 30) (hap : Apt ad b) (hw : Wd G (LA s) s.heap M H locs) (hI : LI G M ad b (F, nx, ct, fl, T, len)) (hZ : ZI B (F, nx, ct, fl, T, len)) (hl : lv_has ls 4 [(3, .int (nI i)), (2, .ref (b 0)), (1, .ref (ad 0)), (0, .ref sb)]) (kk : ∀ (z : Sg) (M : HM) (H : Heap) (locs : List Loc), Wd G (LA s) s.heap M H locs → LI G M ad b z → ZI (B + 120) z → W p l e room_1 s m args below meth c H locs 367 4106 Q (F0 m 1111 ls [])) : W p l e room_1 s m args below meth c H locs 367 4106 Q (F0 m 750 ls []) := by
  obtain ⟨cX, hX, hbl⟩ := C
  have hx := cX.1
  have hb := cX.2.1
  have hbA : ¬ LA s sb := Nat.not_le.mpr hbl
  obtain ⟨⟨tr, hC⟩, hRZ⟩ := hI
  have hC : Cl G M M ad F nx ct fl T len tr := hC
  have hin1 : vp_in (nI i + 1) L := by rw [nI_1]; exact vp_in_nI (by omega) (by omega)
  have hin2 : vp_in (nI i + 2) L := by rw [show nI i + (2 : Int32) = nI (i + 2) from nI_add i 2]; exact vp_in_nI (by omega) (by omega)
  have hs8 : nx < 8 ∧ ct ≤ 8 ∧ len ≤ 120 := ⟨hC.1.2.2.2.2.2.2.2.2.2.1, hC.1.2.2.2.2.2.2.2.2.2.2.1, hC.1.2.2.2.2.2.2.2.2.2.2.2.1⟩
  refine lv_aload_n hx hb dL_law_750 rfl (lv_at hl 2 rfl) ?_
  refine lv_aload_n hx hb dL_law_751 rfl (lv_at hl 3 rfl) ?_
  refine lv_iload_n hx hb dL_law_752 rfl (lv_at hl 0 rfl) ?_
  refine lv_iconst (v := 1) hx hb dL_law_753 (by decide) ?_
  refine lv_iadd hx hb dL_law_754 ?_
  refine va_sld hx hb hX hbl hbA hw.2.1 hin1 dL_law_755 ?_
  refine r_Vi cX hw hC.1.1 rfl [.int (xs (nI i + 1).toNatClampNeg)] (c_X6_safeGap l G hC.1 (xs (nI i + 1).toNatClampNeg) (hZ.1 0 (by decide))) wM_L_104 mw_X6_safeGap ⟨Nat.le_of_ble_eq_true rfl, Nat.le_of_ble_eq_true rfl⟩ rfl rfl hl.1 (Nat.le_of_ble_eq_true rfl) dL_law_756 ⟨Nat.le_of_ble_eq_true rfl, Nat.le_of_ble_eq_true rfl⟩ (fun r1 M1 H locs hp hw => ?_)
  obtain ⟨hr1, hp1⟩ := hp
  rw [hp1] at hw
  have hRZ1 := hRZ
  obtain ⟨sv, sl, iF, iN, at_, it, hR, hsv, hsl, hnx, hcn, hln⟩ := hRZ1
  have hR : Rf G M M b (F 0) sv sl fl T iF iN (nI ct) (nI len) at_ it := hR
  have hsv : SVr F nx ct sv := hsv
  have hsl : SLr F fl sl := hsl
  have hnx : nx < 8 := hnx
  have hcn : ct ≤ 8 := hcn
  have hln : len ≤ 120 := hln
  refine lv_aload_n hx hb dL_law_759 rfl (lv_at hl 1 rfl) ?_
  refine lv_aload_n hx hb dL_law_760 rfl (lv_at hl 3 rfl) ?_
  refine lv_iload_n hx hb dL_law_761 rfl (lv_at hl 0 rfl) ?_
  refine lv_iconst (v := 1) hx hb dL_law_762 (by decide) ?_
  refine lv_iadd hx hb dL_law_763 ?_
  refine va_sld hx hb hX hbl hbA hw.2.1 hin1 dL_law_764 ?_
  refine r_Vi cX hw hR.1.1 rfl [.int (xs (nI i + 1).toNatClampNeg)] (c_X7_safeGap l G (f := F 0) hR.1 (xs (nI i + 1).toNatClampNeg) (hZ.1 0 (by decide))) wM_L_107 mw_X7_safeGap ⟨Nat.le_of_ble_eq_true rfl, Nat.le_of_ble_eq_true rfl⟩ rfl rfl hl.1 (Nat.le_of_ble_eq_true rfl) dL_law_765 ⟨Nat.le_of_ble_eq_true rfl, Nat.le_of_ble_eq_true rfl⟩ (fun r2 M2 H locs hp hw => ?_)
  obtain ⟨hr2, hp2⟩ := hp
  rw [hp2] at hw
  refine lv_icmp_eq (tgt := 1111) hx hb dL_law_768 (by decide) (fun c0 => ?_) (fun c0 => ?_)
  · refine W.widen (k := 367) (n := 4106) (Nat.le_of_ble_eq_true rfl) (Nat.le_of_ble_eq_true rfl) ?_
    exact kk _ _ _ _ hw ⟨⟨tr, hC⟩, hRZ⟩ (hZ.mono (by omega))
  · exact absurd (hr1.trans hr2.symm) c0

set_option maxHeartbeats 4000000 in
set_option maxRecDepth 100000 in
theorem lc_packets {p : Program} {l : Launch} {e : Env} {s : State} {m : MethodId} {args : Array Value} {below : List Frame} {meth : Method} {c : Code} {H : Heap} {locs : List Loc} {Q : State → Prop} {ls : Array Slot} {G : gG} {sb L : Nat} {xs : Nat → Int32} {ad b : Nat → Nat} {F : Nat → Nat → Int32} {nx ct : Nat} {fl T : Nat → Int32} {len : Nat} {B i : Nat} {M : HM} (C : LC p s m c G sb L xs) (hi : i + 3 ≤ L) (hL : L ≤ 1536) (hB : B + 120 < 2 ^ 30) (hap : Apt ad b) (hw : Wd G (LA s) s.heap M H locs) (hI : LI G M ad b (F, nx, ct, fl, T, len)) (hZ : ZI B (F, nx, ct, fl, T, len)) (hl : lv_has ls 4 [(3, .int (nI i)), (2, .ref (b 0)), (1, .ref (ad 0)), (0, .ref sb)]) (kk : ∀ (z : Sg) (M : HM) (H : Heap) (locs : List Loc), Wd G (LA s) s.heap M H locs → LI G M ad b z → ZI (B + 120) z → W p l e room_1 s m args below meth c H locs 367 4106 Q (F0 m 1111 ls [])) : W p l e room_1 s m args below meth c H locs 367 4106 Q (F0 m 773 ls []) := by
  obtain ⟨cX, hX, hbl⟩ := C
  have hx := cX.1
  have hb := cX.2.1
  have hbA : ¬ LA s sb := Nat.not_le.mpr hbl
  obtain ⟨⟨tr, hC⟩, hRZ⟩ := hI
  have hC : Cl G M M ad F nx ct fl T len tr := hC
  have hin1 : vp_in (nI i + 1) L := by rw [nI_1]; exact vp_in_nI (by omega) (by omega)
  have hin2 : vp_in (nI i + 2) L := by rw [show nI i + (2 : Int32) = nI (i + 2) from nI_add i 2]; exact vp_in_nI (by omega) (by omega)
  have hs8 : nx < 8 ∧ ct ≤ 8 ∧ len ≤ 120 := ⟨hC.1.2.2.2.2.2.2.2.2.2.1, hC.1.2.2.2.2.2.2.2.2.2.2.1, hC.1.2.2.2.2.2.2.2.2.2.2.2.1⟩
  refine lv_aload_n hx hb dL_law_773 rfl (lv_at hl 2 rfl) ?_
  refine lv_aload_n hx hb dL_law_774 rfl (lv_at hl 3 rfl) ?_
  refine lv_iload_n hx hb dL_law_775 rfl (lv_at hl 0 rfl) ?_
  refine lv_iconst (v := 1) hx hb dL_law_776 (by decide) ?_
  refine lv_iadd hx hb dL_law_777 ?_
  refine va_sld hx hb hX hbl hbA hw.2.1 hin1 dL_law_778 ?_
  refine r_Vi cX hw hC.1.1 rfl [.int (xs (nI i + 1).toNatClampNeg)] (c_X6_packets l G hC.1 (xs (nI i + 1).toNatClampNeg) (hZ.1 0 (by decide))) wM_L_108 mw_X6_packets ⟨Nat.le_of_ble_eq_true rfl, Nat.le_of_ble_eq_true rfl⟩ rfl rfl hl.1 (Nat.le_of_ble_eq_true rfl) dL_law_779 ⟨Nat.le_of_ble_eq_true rfl, Nat.le_of_ble_eq_true rfl⟩ (fun r1 M1 H locs hp hw => ?_)
  obtain ⟨hr1, hp1⟩ := hp
  rw [hp1] at hw
  have hRZ1 := hRZ
  obtain ⟨sv, sl, iF, iN, at_, it, hR, hsv, hsl, hnx, hcn, hln⟩ := hRZ1
  have hR : Rf G M M b (F 0) sv sl fl T iF iN (nI ct) (nI len) at_ it := hR
  have hsv : SVr F nx ct sv := hsv
  have hsl : SLr F fl sl := hsl
  have hnx : nx < 8 := hnx
  have hcn : ct ≤ 8 := hcn
  have hln : len ≤ 120 := hln
  refine lv_aload_n hx hb dL_law_782 rfl (lv_at hl 1 rfl) ?_
  refine lv_aload_n hx hb dL_law_783 rfl (lv_at hl 3 rfl) ?_
  refine lv_iload_n hx hb dL_law_784 rfl (lv_at hl 0 rfl) ?_
  refine lv_iconst (v := 1) hx hb dL_law_785 (by decide) ?_
  refine lv_iadd hx hb dL_law_786 ?_
  refine va_sld hx hb hX hbl hbA hw.2.1 hin1 dL_law_787 ?_
  refine r_Vi cX hw hR.1.1 rfl [.int (xs (nI i + 1).toNatClampNeg)] (c_X7_packets l G (f := F 0) hR.1 (hZ.1 0 (by decide)) (xs (nI i + 1).toNatClampNeg)) wM_L_111 mw_X7_packets ⟨Nat.le_of_ble_eq_true rfl, Nat.le_of_ble_eq_true rfl⟩ rfl rfl hl.1 (Nat.le_of_ble_eq_true rfl) dL_law_788 ⟨Nat.le_of_ble_eq_true rfl, Nat.le_of_ble_eq_true rfl⟩ (fun r2 M2 H locs hp hw => ?_)
  obtain ⟨hr2, hp2⟩ := hp
  rw [hp2] at hw
  refine lv_icmp_eq (tgt := 1111) hx hb dL_law_791 (by decide) (fun c0 => ?_) (fun c0 => ?_)
  · refine W.widen (k := 367) (n := 4106) (Nat.le_of_ble_eq_true rfl) (Nat.le_of_ble_eq_true rfl) ?_
    exact kk _ _ _ _ hw ⟨⟨tr, hC⟩, hRZ⟩ (hZ.mono (by omega))
  · exact absurd (hr1.trans hr2.symm) c0

set_option maxHeartbeats 4000000 in
set_option maxRecDepth 100000 in
theorem lc_bytes {p : Program} {l : Launch} {e : Env} {s : State} {m : MethodId} {args : Array Value} {below : List Frame} {meth : Method} {c : Code} {H : Heap} {locs : List Loc} {Q : State → Prop} {ls : Array Slot} {G : gG} {sb L : Nat} {xs : Nat → Int32} {ad b : Nat → Nat} {F : Nat → Nat → Int32} {nx ct : Nat} {fl T : Nat → Int32} {len : Nat} {B i : Nat} {M : HM} (C : LC p s m c G sb L xs) (hi : i + 3 ≤ L) (hL : L ≤ 1536) (hB : B + 120 < 2 ^ 30) (hap : Apt ad b) (hw : Wd G (LA s) s.heap M H locs) (hI : LI G M ad b (F, nx, ct, fl, T, len)) (hZ : ZI B (F, nx, ct, fl, T, len)) (hl : lv_has ls 4 [(3, .int (nI i)), (2, .ref (b 0)), (1, .ref (ad 0)), (0, .ref sb)]) (kk : ∀ (z : Sg) (M : HM) (H : Heap) (locs : List Loc), Wd G (LA s) s.heap M H locs → LI G M ad b z → ZI (B + 120) z → W p l e room_1 s m args below meth c H locs 367 4106 Q (F0 m 1111 ls [])) : W p l e room_1 s m args below meth c H locs 367 4106 Q (F0 m 796 ls []) := by
  obtain ⟨cX, hX, hbl⟩ := C
  have hx := cX.1
  have hb := cX.2.1
  have hbA : ¬ LA s sb := Nat.not_le.mpr hbl
  obtain ⟨⟨tr, hC⟩, hRZ⟩ := hI
  have hC : Cl G M M ad F nx ct fl T len tr := hC
  have hin1 : vp_in (nI i + 1) L := by rw [nI_1]; exact vp_in_nI (by omega) (by omega)
  have hin2 : vp_in (nI i + 2) L := by rw [show nI i + (2 : Int32) = nI (i + 2) from nI_add i 2]; exact vp_in_nI (by omega) (by omega)
  have hs8 : nx < 8 ∧ ct ≤ 8 ∧ len ≤ 120 := ⟨hC.1.2.2.2.2.2.2.2.2.2.1, hC.1.2.2.2.2.2.2.2.2.2.2.1, hC.1.2.2.2.2.2.2.2.2.2.2.2.1⟩
  refine lv_aload_n hx hb dL_law_796 rfl (lv_at hl 2 rfl) ?_
  refine lv_aload_n hx hb dL_law_797 rfl (lv_at hl 3 rfl) ?_
  refine lv_iload_n hx hb dL_law_798 rfl (lv_at hl 0 rfl) ?_
  refine lv_iconst (v := 1) hx hb dL_law_799 (by decide) ?_
  refine lv_iadd hx hb dL_law_800 ?_
  refine va_sld hx hb hX hbl hbA hw.2.1 hin1 dL_law_801 ?_
  refine r_Vi cX hw hC.1.1 rfl [.int (xs (nI i + 1).toNatClampNeg)] (c_X6_bytes l G hC.1 (xs (nI i + 1).toNatClampNeg) (hZ.1 0 (by decide))) wM_L_112 mw_X6_bytes ⟨Nat.le_of_ble_eq_true rfl, Nat.le_of_ble_eq_true rfl⟩ rfl rfl hl.1 (Nat.le_of_ble_eq_true rfl) dL_law_802 ⟨Nat.le_of_ble_eq_true rfl, Nat.le_of_ble_eq_true rfl⟩ (fun r1 M1 H locs hp hw => ?_)
  obtain ⟨hr1, hp1⟩ := hp
  rw [hp1] at hw
  have hRZ1 := hRZ
  obtain ⟨sv, sl, iF, iN, at_, it, hR, hsv, hsl, hnx, hcn, hln⟩ := hRZ1
  have hR : Rf G M M b (F 0) sv sl fl T iF iN (nI ct) (nI len) at_ it := hR
  have hsv : SVr F nx ct sv := hsv
  have hsl : SLr F fl sl := hsl
  have hnx : nx < 8 := hnx
  have hcn : ct ≤ 8 := hcn
  have hln : len ≤ 120 := hln
  refine lv_aload_n hx hb dL_law_805 rfl (lv_at hl 1 rfl) ?_
  refine lv_aload_n hx hb dL_law_806 rfl (lv_at hl 3 rfl) ?_
  refine lv_iload_n hx hb dL_law_807 rfl (lv_at hl 0 rfl) ?_
  refine lv_iconst (v := 1) hx hb dL_law_808 (by decide) ?_
  refine lv_iadd hx hb dL_law_809 ?_
  refine va_sld hx hb hX hbl hbA hw.2.1 hin1 dL_law_810 ?_
  refine r_Vi cX hw hR.1.1 rfl [.int (xs (nI i + 1).toNatClampNeg)] (c_X7_bytes l G (f := F 0) hR.1 (hZ.1 0 (by decide)) (xs (nI i + 1).toNatClampNeg)) wM_L_115 mw_X7_bytes ⟨Nat.le_of_ble_eq_true rfl, Nat.le_of_ble_eq_true rfl⟩ rfl rfl hl.1 (Nat.le_of_ble_eq_true rfl) dL_law_811 ⟨Nat.le_of_ble_eq_true rfl, Nat.le_of_ble_eq_true rfl⟩ (fun r2 M2 H locs hp hw => ?_)
  obtain ⟨hr2, hp2⟩ := hp
  rw [hp2] at hw
  refine lv_icmp_eq (tgt := 1111) hx hb dL_law_814 (by decide) (fun c0 => ?_) (fun c0 => ?_)
  · refine W.widen (k := 367) (n := 4106) (Nat.le_of_ble_eq_true rfl) (Nat.le_of_ble_eq_true rfl) ?_
    exact kk _ _ _ _ hw ⟨⟨tr, hC⟩, hRZ⟩ (hZ.mono (by omega))
  · exact absurd (hr1.trans hr2.symm) c0

set_option maxHeartbeats 4000000 in
set_option maxRecDepth 100000 in
theorem lc_drops {p : Program} {l : Launch} {e : Env} {s : State} {m : MethodId} {args : Array Value} {below : List Frame} {meth : Method} {c : Code} {H : Heap} {locs : List Loc} {Q : State → Prop} {ls : Array Slot} {G : gG} {sb L : Nat} {xs : Nat → Int32} {ad b : Nat → Nat} {F : Nat → Nat → Int32} {nx ct : Nat} {fl T : Nat → Int32} {len : Nat} {B i : Nat} {M : HM} (C : LC p s m c G sb L xs) (hi : i + 3 ≤ L) (hL : L ≤ 1536) (hB : B + 120 < 2 ^ 30) (hap : Apt ad b) (hw : Wd G (LA s) s.heap M H locs) (hI : LI G M ad b (F, nx, ct, fl, T, len)) (hZ : ZI B (F, nx, ct, fl, T, len)) (hl : lv_has ls 4 [(3, .int (nI i)), (2, .ref (b 0)), (1, .ref (ad 0)), (0, .ref sb)]) (kk : ∀ (z : Sg) (M : HM) (H : Heap) (locs : List Loc), Wd G (LA s) s.heap M H locs → LI G M ad b z → ZI (B + 120) z → W p l e room_1 s m args below meth c H locs 367 4106 Q (F0 m 1111 ls [])) : W p l e room_1 s m args below meth c H locs 367 4106 Q (F0 m 819 ls []) := by
  obtain ⟨cX, hX, hbl⟩ := C
  have hx := cX.1
  have hb := cX.2.1
  have hbA : ¬ LA s sb := Nat.not_le.mpr hbl
  obtain ⟨⟨tr, hC⟩, hRZ⟩ := hI
  have hC : Cl G M M ad F nx ct fl T len tr := hC
  have hin1 : vp_in (nI i + 1) L := by rw [nI_1]; exact vp_in_nI (by omega) (by omega)
  have hin2 : vp_in (nI i + 2) L := by rw [show nI i + (2 : Int32) = nI (i + 2) from nI_add i 2]; exact vp_in_nI (by omega) (by omega)
  have hs8 : nx < 8 ∧ ct ≤ 8 ∧ len ≤ 120 := ⟨hC.1.2.2.2.2.2.2.2.2.2.1, hC.1.2.2.2.2.2.2.2.2.2.2.1, hC.1.2.2.2.2.2.2.2.2.2.2.2.1⟩
  refine lv_aload_n hx hb dL_law_819 rfl (lv_at hl 2 rfl) ?_
  refine lv_aload_n hx hb dL_law_820 rfl (lv_at hl 3 rfl) ?_
  refine lv_iload_n hx hb dL_law_821 rfl (lv_at hl 0 rfl) ?_
  refine lv_iconst (v := 1) hx hb dL_law_822 (by decide) ?_
  refine lv_iadd hx hb dL_law_823 ?_
  refine va_sld hx hb hX hbl hbA hw.2.1 hin1 dL_law_824 ?_
  refine r_Vi cX hw hC.1.1 rfl [.int (xs (nI i + 1).toNatClampNeg)] (c_X6_drops l G hC.1 (xs (nI i + 1).toNatClampNeg) (hZ.1 0 (by decide))) wM_L_116 mw_X6_drops ⟨Nat.le_of_ble_eq_true rfl, Nat.le_of_ble_eq_true rfl⟩ rfl rfl hl.1 (Nat.le_of_ble_eq_true rfl) dL_law_825 ⟨Nat.le_of_ble_eq_true rfl, Nat.le_of_ble_eq_true rfl⟩ (fun r1 M1 H locs hp hw => ?_)
  obtain ⟨hr1, hp1⟩ := hp
  rw [hp1] at hw
  have hRZ1 := hRZ
  obtain ⟨sv, sl, iF, iN, at_, it, hR, hsv, hsl, hnx, hcn, hln⟩ := hRZ1
  have hR : Rf G M M b (F 0) sv sl fl T iF iN (nI ct) (nI len) at_ it := hR
  have hsv : SVr F nx ct sv := hsv
  have hsl : SLr F fl sl := hsl
  have hnx : nx < 8 := hnx
  have hcn : ct ≤ 8 := hcn
  have hln : len ≤ 120 := hln
  refine lv_aload_n hx hb dL_law_828 rfl (lv_at hl 1 rfl) ?_
  refine lv_aload_n hx hb dL_law_829 rfl (lv_at hl 3 rfl) ?_
  refine lv_iload_n hx hb dL_law_830 rfl (lv_at hl 0 rfl) ?_
  refine lv_iconst (v := 1) hx hb dL_law_831 (by decide) ?_
  refine lv_iadd hx hb dL_law_832 ?_
  refine va_sld hx hb hX hbl hbA hw.2.1 hin1 dL_law_833 ?_
  refine r_Vi cX hw hR.1.1 rfl [.int (xs (nI i + 1).toNatClampNeg)] (c_X7_drops l G (f := F 0) hR.1 (hZ.1 0 (by decide)) (xs (nI i + 1).toNatClampNeg)) wM_L_119 mw_X7_drops ⟨Nat.le_of_ble_eq_true rfl, Nat.le_of_ble_eq_true rfl⟩ rfl rfl hl.1 (Nat.le_of_ble_eq_true rfl) dL_law_834 ⟨Nat.le_of_ble_eq_true rfl, Nat.le_of_ble_eq_true rfl⟩ (fun r2 M2 H locs hp hw => ?_)
  obtain ⟨hr2, hp2⟩ := hp
  rw [hp2] at hw
  refine lv_icmp_eq (tgt := 1111) hx hb dL_law_837 (by decide) (fun c0 => ?_) (fun c0 => ?_)
  · refine W.widen (k := 367) (n := 4106) (Nat.le_of_ble_eq_true rfl) (Nat.le_of_ble_eq_true rfl) ?_
    exact kk _ _ _ _ hw ⟨⟨tr, hC⟩, hRZ⟩ (hZ.mono (by omega))
  · exact absurd (hr1.trans hr2.symm) c0

set_option maxHeartbeats 4000000 in
set_option maxRecDepth 100000 in
theorem lc_imbalance {p : Program} {l : Launch} {e : Env} {s : State} {m : MethodId} {args : Array Value} {below : List Frame} {meth : Method} {c : Code} {H : Heap} {locs : List Loc} {Q : State → Prop} {ls : Array Slot} {G : gG} {sb L : Nat} {xs : Nat → Int32} {ad b : Nat → Nat} {F : Nat → Nat → Int32} {nx ct : Nat} {fl T : Nat → Int32} {len : Nat} {B i : Nat} {M : HM} (C : LC p s m c G sb L xs) (hi : i + 3 ≤ L) (hL : L ≤ 1536) (hB : B + 120 < 2 ^ 30) (hap : Apt ad b) (hw : Wd G (LA s) s.heap M H locs) (hI : LI G M ad b (F, nx, ct, fl, T, len)) (hZ : ZI B (F, nx, ct, fl, T, len)) (hl : lv_has ls 4 [(3, .int (nI i)), (2, .ref (b 0)), (1, .ref (ad 0)), (0, .ref sb)]) (kk : ∀ (z : Sg) (M : HM) (H : Heap) (locs : List Loc), Wd G (LA s) s.heap M H locs → LI G M ad b z → ZI (B + 120) z → W p l e room_1 s m args below meth c H locs 367 4106 Q (F0 m 1111 ls [])) : W p l e room_1 s m args below meth c H locs 367 4106 Q (F0 m 842 ls []) := by
  obtain ⟨cX, hX, hbl⟩ := C
  have hx := cX.1
  have hb := cX.2.1
  have hbA : ¬ LA s sb := Nat.not_le.mpr hbl
  obtain ⟨⟨tr, hC⟩, hRZ⟩ := hI
  have hC : Cl G M M ad F nx ct fl T len tr := hC
  have hin1 : vp_in (nI i + 1) L := by rw [nI_1]; exact vp_in_nI (by omega) (by omega)
  have hin2 : vp_in (nI i + 2) L := by rw [show nI i + (2 : Int32) = nI (i + 2) from nI_add i 2]; exact vp_in_nI (by omega) (by omega)
  have hs8 : nx < 8 ∧ ct ≤ 8 ∧ len ≤ 120 := ⟨hC.1.2.2.2.2.2.2.2.2.2.1, hC.1.2.2.2.2.2.2.2.2.2.2.1, hC.1.2.2.2.2.2.2.2.2.2.2.2.1⟩
  refine lv_aload_n hx hb dL_law_842 rfl (lv_at hl 2 rfl) ?_
  refine r_Vi cX hw hC.1.1 rfl [] (c_X6_imbalance l G hC.1 (hZ.1 0 (by decide))) wM_L_120 mw_X6_imbalance ⟨Nat.le_of_ble_eq_true rfl, Nat.le_of_ble_eq_true rfl⟩ rfl rfl hl.1 (Nat.le_of_ble_eq_true rfl) dL_law_843 ⟨Nat.le_of_ble_eq_true rfl, Nat.le_of_ble_eq_true rfl⟩ (fun r1 M1 H locs hp hw => ?_)
  obtain ⟨hr1, hp1⟩ := hp
  rw [hp1] at hw
  have hRZ1 := hRZ
  obtain ⟨sv, sl, iF, iN, at_, it, hR, hsv, hsl, hnx, hcn, hln⟩ := hRZ1
  have hR : Rf G M M b (F 0) sv sl fl T iF iN (nI ct) (nI len) at_ it := hR
  have hsv : SVr F nx ct sv := hsv
  have hsl : SLr F fl sl := hsl
  have hnx : nx < 8 := hnx
  have hcn : ct ≤ 8 := hcn
  have hln : len ≤ 120 := hln
  refine lv_aload_n hx hb dL_law_846 rfl (lv_at hl 1 rfl) ?_
  refine r_Vi cX hw hR.1.1 rfl [] (c_X7_imbalance l G (f := F 0) hR.1 (hZ.1 0 (by decide))) wM_L_123 mw_X7_imbalance ⟨Nat.le_of_ble_eq_true rfl, Nat.le_of_ble_eq_true rfl⟩ rfl rfl hl.1 (Nat.le_of_ble_eq_true rfl) dL_law_847 ⟨Nat.le_of_ble_eq_true rfl, Nat.le_of_ble_eq_true rfl⟩ (fun r2 M2 H locs hp hw => ?_)
  obtain ⟨hr2, hp2⟩ := hp
  rw [hp2] at hw
  refine lv_icmp_eq (tgt := 1111) hx hb dL_law_850 (by decide) (fun c0 => ?_) (fun c0 => ?_)
  · refine W.widen (k := 367) (n := 4106) (Nat.le_of_ble_eq_true rfl) (Nat.le_of_ble_eq_true rfl) ?_
    exact kk _ _ _ _ hw ⟨⟨tr, hC⟩, hRZ⟩ (hZ.mono (by omega))
  · exact absurd (hr1.trans hr2.symm) c0

set_option maxHeartbeats 4000000 in
set_option maxRecDepth 100000 in
theorem lc_nextPath {p : Program} {l : Launch} {e : Env} {s : State} {m : MethodId} {args : Array Value} {below : List Frame} {meth : Method} {c : Code} {H : Heap} {locs : List Loc} {Q : State → Prop} {ls : Array Slot} {G : gG} {sb L : Nat} {xs : Nat → Int32} {ad b : Nat → Nat} {F : Nat → Nat → Int32} {nx ct : Nat} {fl T : Nat → Int32} {len : Nat} {B i : Nat} {M : HM} (C : LC p s m c G sb L xs) (hi : i + 3 ≤ L) (hL : L ≤ 1536) (hB : B + 120 < 2 ^ 30) (hap : Apt ad b) (hw : Wd G (LA s) s.heap M H locs) (hI : LI G M ad b (F, nx, ct, fl, T, len)) (hZ : ZI B (F, nx, ct, fl, T, len)) (hl : lv_has ls 4 [(3, .int (nI i)), (2, .ref (b 0)), (1, .ref (ad 0)), (0, .ref sb)]) (kk : ∀ (z : Sg) (M : HM) (H : Heap) (locs : List Loc), Wd G (LA s) s.heap M H locs → LI G M ad b z → ZI (B + 120) z → W p l e room_1 s m args below meth c H locs 367 4106 Q (F0 m 1111 ls [])) : W p l e room_1 s m args below meth c H locs 367 4106 Q (F0 m 855 ls []) := by
  obtain ⟨cX, hX, hbl⟩ := C
  have hx := cX.1
  have hb := cX.2.1
  have hbA : ¬ LA s sb := Nat.not_le.mpr hbl
  obtain ⟨⟨tr, hC⟩, hRZ⟩ := hI
  have hC : Cl G M M ad F nx ct fl T len tr := hC
  have hin1 : vp_in (nI i + 1) L := by rw [nI_1]; exact vp_in_nI (by omega) (by omega)
  have hin2 : vp_in (nI i + 2) L := by rw [show nI i + (2 : Int32) = nI (i + 2) from nI_add i 2]; exact vp_in_nI (by omega) (by omega)
  have hs8 : nx < 8 ∧ ct ≤ 8 ∧ len ≤ 120 := ⟨hC.1.2.2.2.2.2.2.2.2.2.1, hC.1.2.2.2.2.2.2.2.2.2.2.1, hC.1.2.2.2.2.2.2.2.2.2.2.2.1⟩
  refine lv_aload_n hx hb dL_law_855 rfl (lv_at hl 2 rfl) ?_
  refine lv_aload_n hx hb dL_law_856 rfl (lv_at hl 3 rfl) ?_
  refine lv_iload_n hx hb dL_law_857 rfl (lv_at hl 0 rfl) ?_
  refine lv_iconst (v := 1) hx hb dL_law_858 (by decide) ?_
  refine lv_iadd hx hb dL_law_859 ?_
  refine va_sld hx hb hX hbl hbA hw.2.1 hin1 dL_law_860 ?_
  refine r_Vi cX hw hC.1.1 rfl [.int (xs (nI i + 1).toNatClampNeg)] (c_X6_nextPath l G hC.1 (xs (nI i + 1).toNatClampNeg) (hZ.1 0 (by decide))) wM_L_124 mw_X6_nextPath ⟨Nat.le_of_ble_eq_true rfl, Nat.le_of_ble_eq_true rfl⟩ rfl rfl hl.1 (Nat.le_of_ble_eq_true rfl) dL_law_861 ⟨Nat.le_of_ble_eq_true rfl, Nat.le_of_ble_eq_true rfl⟩ (fun r1 M1 H locs hp hw => ?_)
  obtain ⟨hr1, hp1⟩ := hp
  rw [hp1] at hw
  have hRZ1 := hRZ
  obtain ⟨sv, sl, iF, iN, at_, it, hR, hsv, hsl, hnx, hcn, hln⟩ := hRZ1
  have hR : Rf G M M b (F 0) sv sl fl T iF iN (nI ct) (nI len) at_ it := hR
  have hsv : SVr F nx ct sv := hsv
  have hsl : SLr F fl sl := hsl
  have hnx : nx < 8 := hnx
  have hcn : ct ≤ 8 := hcn
  have hln : len ≤ 120 := hln
  refine lv_aload_n hx hb dL_law_864 rfl (lv_at hl 1 rfl) ?_
  refine lv_aload_n hx hb dL_law_865 rfl (lv_at hl 3 rfl) ?_
  refine lv_iload_n hx hb dL_law_866 rfl (lv_at hl 0 rfl) ?_
  refine lv_iconst (v := 1) hx hb dL_law_867 (by decide) ?_
  refine lv_iadd hx hb dL_law_868 ?_
  refine va_sld hx hb hX hbl hbA hw.2.1 hin1 dL_law_869 ?_
  refine r_Vi cX hw hR.1.1 rfl [.int (xs (nI i + 1).toNatClampNeg)] (c_X7_nextPath l G (f := F 0) hR.1 (hZ.1 0 (by decide)) (xs (nI i + 1).toNatClampNeg)) wM_L_127 mw_X7_nextPath ⟨Nat.le_of_ble_eq_true rfl, Nat.le_of_ble_eq_true rfl⟩ rfl rfl hl.1 (Nat.le_of_ble_eq_true rfl) dL_law_870 ⟨Nat.le_of_ble_eq_true rfl, Nat.le_of_ble_eq_true rfl⟩ (fun r2 M2 H locs hp hw => ?_)
  obtain ⟨hr2, hp2⟩ := hp
  rw [hp2] at hw
  refine lv_icmp_eq (tgt := 1111) hx hb dL_law_873 (by decide) (fun c0 => ?_) (fun c0 => ?_)
  · refine W.widen (k := 367) (n := 4106) (Nat.le_of_ble_eq_true rfl) (Nat.le_of_ble_eq_true rfl) ?_
    exact kk _ _ _ _ hw ⟨⟨tr, hC⟩, hRZ⟩ (hZ.mono (by omega))
  · exact absurd (hr1.trans hr2.symm) c0

set_option maxHeartbeats 4000000 in
set_option maxRecDepth 100000 in
theorem lc_wouldReorder {p : Program} {l : Launch} {e : Env} {s : State} {m : MethodId} {args : Array Value} {below : List Frame} {meth : Method} {c : Code} {H : Heap} {locs : List Loc} {Q : State → Prop} {ls : Array Slot} {G : gG} {sb L : Nat} {xs : Nat → Int32} {ad b : Nat → Nat} {F : Nat → Nat → Int32} {nx ct : Nat} {fl T : Nat → Int32} {len : Nat} {B i : Nat} {M : HM} (C : LC p s m c G sb L xs) (hi : i + 3 ≤ L) (hL : L ≤ 1536) (hB : B + 120 < 2 ^ 30) (hap : Apt ad b) (hw : Wd G (LA s) s.heap M H locs) (hI : LI G M ad b (F, nx, ct, fl, T, len)) (hZ : ZI B (F, nx, ct, fl, T, len)) (hl : lv_has ls 4 [(3, .int (nI i)), (2, .ref (b 0)), (1, .ref (ad 0)), (0, .ref sb)]) (kk : ∀ (z : Sg) (M : HM) (H : Heap) (locs : List Loc), Wd G (LA s) s.heap M H locs → LI G M ad b z → ZI (B + 120) z → W p l e room_1 s m args below meth c H locs 367 4106 Q (F0 m 1111 ls [])) : W p l e room_1 s m args below meth c H locs 367 4106 Q (F0 m 878 ls []) := by
  obtain ⟨cX, hX, hbl⟩ := C
  have hx := cX.1
  have hb := cX.2.1
  have hbA : ¬ LA s sb := Nat.not_le.mpr hbl
  obtain ⟨⟨tr, hC⟩, hRZ⟩ := hI
  have hC : Cl G M M ad F nx ct fl T len tr := hC
  have hin1 : vp_in (nI i + 1) L := by rw [nI_1]; exact vp_in_nI (by omega) (by omega)
  have hin2 : vp_in (nI i + 2) L := by rw [show nI i + (2 : Int32) = nI (i + 2) from nI_add i 2]; exact vp_in_nI (by omega) (by omega)
  have hs8 : nx < 8 ∧ ct ≤ 8 ∧ len ≤ 120 := ⟨hC.1.2.2.2.2.2.2.2.2.2.1, hC.1.2.2.2.2.2.2.2.2.2.2.1, hC.1.2.2.2.2.2.2.2.2.2.2.2.1⟩
  refine lv_aload_n hx hb dL_law_878 rfl (lv_at hl 2 rfl) ?_
  refine lv_aload_n hx hb dL_law_879 rfl (lv_at hl 3 rfl) ?_
  refine lv_iload_n hx hb dL_law_880 rfl (lv_at hl 0 rfl) ?_
  refine lv_iconst (v := 1) hx hb dL_law_881 (by decide) ?_
  refine lv_iadd hx hb dL_law_882 ?_
  refine va_sld hx hb hX hbl hbA hw.2.1 hin1 dL_law_883 ?_
  refine lv_aload_n hx hb dL_law_884 rfl (lv_at hl 3 rfl) ?_
  refine lv_iload_n hx hb dL_law_885 rfl (lv_at hl 0 rfl) ?_
  refine lv_iconst (v := 2) hx hb dL_law_886 (by decide) ?_
  refine lv_iadd hx hb dL_law_887 ?_
  refine va_sld hx hb hX hbl hbA hw.2.1 hin2 dL_law_888 ?_
  refine r_Vi cX hw hC.1.1 rfl [.int (xs (nI i + 1).toNatClampNeg), .int (xs (nI i + 2).toNatClampNeg)] (c_X6_wouldReorder l G hC.1 (xs (nI i + 1).toNatClampNeg) (xs (nI i + 2).toNatClampNeg) (hZ.1 0 (by decide)) (by omega)) wM_L_128 mw_X6_wouldReorder ⟨Nat.le_of_ble_eq_true rfl, Nat.le_of_ble_eq_true rfl⟩ rfl rfl hl.1 (Nat.le_of_ble_eq_true rfl) dL_law_889 ⟨Nat.le_of_ble_eq_true rfl, Nat.le_of_ble_eq_true rfl⟩ (fun r1 M1 H locs hp hw => ?_)
  obtain ⟨hr1, hp1⟩ := hp
  rw [hp1] at hw
  have hRZ1 := hRZ
  obtain ⟨sv, sl, iF, iN, at_, it, hR, hsv, hsl, hnx, hcn, hln⟩ := hRZ1
  have hR : Rf G M M b (F 0) sv sl fl T iF iN (nI ct) (nI len) at_ it := hR
  have hsv : SVr F nx ct sv := hsv
  have hsl : SLr F fl sl := hsl
  have hnx : nx < 8 := hnx
  have hcn : ct ≤ 8 := hcn
  have hln : len ≤ 120 := hln
  refine lv_aload_n hx hb dL_law_892 rfl (lv_at hl 1 rfl) ?_
  refine lv_aload_n hx hb dL_law_893 rfl (lv_at hl 3 rfl) ?_
  refine lv_iload_n hx hb dL_law_894 rfl (lv_at hl 0 rfl) ?_
  refine lv_iconst (v := 1) hx hb dL_law_895 (by decide) ?_
  refine lv_iadd hx hb dL_law_896 ?_
  refine va_sld hx hb hX hbl hbA hw.2.1 hin1 dL_law_897 ?_
  refine lv_aload_n hx hb dL_law_898 rfl (lv_at hl 3 rfl) ?_
  refine lv_iload_n hx hb dL_law_899 rfl (lv_at hl 0 rfl) ?_
  refine lv_iconst (v := 2) hx hb dL_law_900 (by decide) ?_
  refine lv_iadd hx hb dL_law_901 ?_
  refine va_sld hx hb hX hbl hbA hw.2.1 hin2 dL_law_902 ?_
  refine r_Vi cX hw hR.1.1 rfl [.int (xs (nI i + 1).toNatClampNeg), .int (xs (nI i + 2).toNatClampNeg)] (c_X7_wouldReorder l G (f := F 0) hR.1 (hZ.1 0 (by decide)) (xs (nI i + 1).toNatClampNeg) (xs (nI i + 2).toNatClampNeg) (by omega)) wM_L_131 mw_X7_wouldReorder ⟨Nat.le_of_ble_eq_true rfl, Nat.le_of_ble_eq_true rfl⟩ rfl rfl hl.1 (Nat.le_of_ble_eq_true rfl) dL_law_903 ⟨Nat.le_of_ble_eq_true rfl, Nat.le_of_ble_eq_true rfl⟩ (fun r2 M2 H locs hp hw => ?_)
  obtain ⟨hr2, hp2⟩ := hp
  rw [hp2] at hw
  refine lv_icmp_eq (tgt := 1111) hx hb dL_law_906 (by decide) (fun c0 => ?_) (fun c0 => ?_)
  · refine W.widen (k := 367) (n := 4106) (Nat.le_of_ble_eq_true rfl) (Nat.le_of_ble_eq_true rfl) ?_
    exact kk _ _ _ _ hw ⟨⟨tr, hC⟩, hRZ⟩ (hZ.mono (by omega))
  · exact absurd (hr1.trans hr2.symm) c0

set_option maxHeartbeats 4000000 in
set_option maxRecDepth 100000 in
theorem lc_flowlets {p : Program} {l : Launch} {e : Env} {s : State} {m : MethodId} {args : Array Value} {below : List Frame} {meth : Method} {c : Code} {H : Heap} {locs : List Loc} {Q : State → Prop} {ls : Array Slot} {G : gG} {sb L : Nat} {xs : Nat → Int32} {ad b : Nat → Nat} {F : Nat → Nat → Int32} {nx ct : Nat} {fl T : Nat → Int32} {len : Nat} {B i : Nat} {M : HM} (C : LC p s m c G sb L xs) (hi : i + 3 ≤ L) (hL : L ≤ 1536) (hB : B + 120 < 2 ^ 30) (hap : Apt ad b) (hw : Wd G (LA s) s.heap M H locs) (hI : LI G M ad b (F, nx, ct, fl, T, len)) (hZ : ZI B (F, nx, ct, fl, T, len)) (hl : lv_has ls 4 [(3, .int (nI i)), (2, .ref (b 0)), (1, .ref (ad 0)), (0, .ref sb)]) (kk : ∀ (z : Sg) (M : HM) (H : Heap) (locs : List Loc), Wd G (LA s) s.heap M H locs → LI G M ad b z → ZI (B + 120) z → W p l e room_1 s m args below meth c H locs 367 4106 Q (F0 m 1111 ls [])) : W p l e room_1 s m args below meth c H locs 367 4106 Q (F0 m 911 ls []) := by
  obtain ⟨cX, hX, hbl⟩ := C
  have hx := cX.1
  have hb := cX.2.1
  have hbA : ¬ LA s sb := Nat.not_le.mpr hbl
  obtain ⟨⟨tr, hC⟩, hRZ⟩ := hI
  have hC : Cl G M M ad F nx ct fl T len tr := hC
  have hin1 : vp_in (nI i + 1) L := by rw [nI_1]; exact vp_in_nI (by omega) (by omega)
  have hin2 : vp_in (nI i + 2) L := by rw [show nI i + (2 : Int32) = nI (i + 2) from nI_add i 2]; exact vp_in_nI (by omega) (by omega)
  have hs8 : nx < 8 ∧ ct ≤ 8 ∧ len ≤ 120 := ⟨hC.1.2.2.2.2.2.2.2.2.2.1, hC.1.2.2.2.2.2.2.2.2.2.2.1, hC.1.2.2.2.2.2.2.2.2.2.2.2.1⟩
  refine lv_aload_n hx hb dL_law_911 rfl (lv_at hl 2 rfl) ?_
  refine lv_aload_n hx hb dL_law_912 rfl (lv_at hl 3 rfl) ?_
  refine lv_iload_n hx hb dL_law_913 rfl (lv_at hl 0 rfl) ?_
  refine lv_iconst (v := 1) hx hb dL_law_914 (by decide) ?_
  refine lv_iadd hx hb dL_law_915 ?_
  refine va_sld hx hb hX hbl hbA hw.2.1 hin1 dL_law_916 ?_
  refine r_Vi cX hw hC.1.1 rfl [.int (xs (nI i + 1).toNatClampNeg)] (c_X6_flowlets l G hC.1 (xs (nI i + 1).toNatClampNeg) (hZ.1 0 (by decide))) wM_L_132 mw_X6_flowlets ⟨Nat.le_of_ble_eq_true rfl, Nat.le_of_ble_eq_true rfl⟩ rfl rfl hl.1 (Nat.le_of_ble_eq_true rfl) dL_law_917 ⟨Nat.le_of_ble_eq_true rfl, Nat.le_of_ble_eq_true rfl⟩ (fun r1 M1 H locs hp hw => ?_)
  obtain ⟨hr1, hp1⟩ := hp
  rw [hp1] at hw
  have hRZ1 := hRZ
  obtain ⟨sv, sl, iF, iN, at_, it, hR, hsv, hsl, hnx, hcn, hln⟩ := hRZ1
  have hR : Rf G M M b (F 0) sv sl fl T iF iN (nI ct) (nI len) at_ it := hR
  have hsv : SVr F nx ct sv := hsv
  have hsl : SLr F fl sl := hsl
  have hnx : nx < 8 := hnx
  have hcn : ct ≤ 8 := hcn
  have hln : len ≤ 120 := hln
  refine lv_aload_n hx hb dL_law_920 rfl (lv_at hl 1 rfl) ?_
  refine lv_aload_n hx hb dL_law_921 rfl (lv_at hl 3 rfl) ?_
  refine lv_iload_n hx hb dL_law_922 rfl (lv_at hl 0 rfl) ?_
  refine lv_iconst (v := 1) hx hb dL_law_923 (by decide) ?_
  refine lv_iadd hx hb dL_law_924 ?_
  refine va_sld hx hb hX hbl hbA hw.2.1 hin1 dL_law_925 ?_
  refine r_Vi cX hw hR.1.1 rfl [.int (xs (nI i + 1).toNatClampNeg)] (c_X7_flowlets l G (f := F 0) hR.1 (xs (nI i + 1).toNatClampNeg)) wM_L_135 mw_X7_flowlets ⟨Nat.le_of_ble_eq_true rfl, Nat.le_of_ble_eq_true rfl⟩ rfl rfl hl.1 (Nat.le_of_ble_eq_true rfl) dL_law_926 ⟨Nat.le_of_ble_eq_true rfl, Nat.le_of_ble_eq_true rfl⟩ (fun r2 M2 H locs hp hw => ?_)
  obtain ⟨hr2, hp2⟩ := hp
  rw [hp2] at hw
  refine lv_icmp_eq (tgt := 1111) hx hb dL_law_929 (by decide) (fun c0 => ?_) (fun c0 => ?_)
  · refine W.widen (k := 367) (n := 4106) (Nat.le_of_ble_eq_true rfl) (Nat.le_of_ble_eq_true rfl) ?_
    exact kk _ _ _ _ hw ⟨⟨tr, hC⟩, hRZ⟩ (hZ.mono (by omega))
  · exact absurd (hr1.trans hr2.symm) c0

set_option maxHeartbeats 4000000 in
set_option maxRecDepth 100000 in
theorem lc_pathChanges {p : Program} {l : Launch} {e : Env} {s : State} {m : MethodId} {args : Array Value} {below : List Frame} {meth : Method} {c : Code} {H : Heap} {locs : List Loc} {Q : State → Prop} {ls : Array Slot} {G : gG} {sb L : Nat} {xs : Nat → Int32} {ad b : Nat → Nat} {F : Nat → Nat → Int32} {nx ct : Nat} {fl T : Nat → Int32} {len : Nat} {B i : Nat} {M : HM} (C : LC p s m c G sb L xs) (hi : i + 3 ≤ L) (hL : L ≤ 1536) (hB : B + 120 < 2 ^ 30) (hap : Apt ad b) (hw : Wd G (LA s) s.heap M H locs) (hI : LI G M ad b (F, nx, ct, fl, T, len)) (hZ : ZI B (F, nx, ct, fl, T, len)) (hl : lv_has ls 4 [(3, .int (nI i)), (2, .ref (b 0)), (1, .ref (ad 0)), (0, .ref sb)]) (kk : ∀ (z : Sg) (M : HM) (H : Heap) (locs : List Loc), Wd G (LA s) s.heap M H locs → LI G M ad b z → ZI (B + 120) z → W p l e room_1 s m args below meth c H locs 367 4106 Q (F0 m 1111 ls [])) : W p l e room_1 s m args below meth c H locs 367 4106 Q (F0 m 934 ls []) := by
  obtain ⟨cX, hX, hbl⟩ := C
  have hx := cX.1
  have hb := cX.2.1
  have hbA : ¬ LA s sb := Nat.not_le.mpr hbl
  obtain ⟨⟨tr, hC⟩, hRZ⟩ := hI
  have hC : Cl G M M ad F nx ct fl T len tr := hC
  have hin1 : vp_in (nI i + 1) L := by rw [nI_1]; exact vp_in_nI (by omega) (by omega)
  have hin2 : vp_in (nI i + 2) L := by rw [show nI i + (2 : Int32) = nI (i + 2) from nI_add i 2]; exact vp_in_nI (by omega) (by omega)
  have hs8 : nx < 8 ∧ ct ≤ 8 ∧ len ≤ 120 := ⟨hC.1.2.2.2.2.2.2.2.2.2.1, hC.1.2.2.2.2.2.2.2.2.2.2.1, hC.1.2.2.2.2.2.2.2.2.2.2.2.1⟩
  refine lv_aload_n hx hb dL_law_934 rfl (lv_at hl 2 rfl) ?_
  refine lv_aload_n hx hb dL_law_935 rfl (lv_at hl 3 rfl) ?_
  refine lv_iload_n hx hb dL_law_936 rfl (lv_at hl 0 rfl) ?_
  refine lv_iconst (v := 1) hx hb dL_law_937 (by decide) ?_
  refine lv_iadd hx hb dL_law_938 ?_
  refine va_sld hx hb hX hbl hbA hw.2.1 hin1 dL_law_939 ?_
  refine r_Vi cX hw hC.1.1 rfl [.int (xs (nI i + 1).toNatClampNeg)] (c_X6_pathChanges l G hC.1 (xs (nI i + 1).toNatClampNeg) (hZ.1 0 (by decide))) wM_L_136 mw_X6_pathChanges ⟨Nat.le_of_ble_eq_true rfl, Nat.le_of_ble_eq_true rfl⟩ rfl rfl hl.1 (Nat.le_of_ble_eq_true rfl) dL_law_940 ⟨Nat.le_of_ble_eq_true rfl, Nat.le_of_ble_eq_true rfl⟩ (fun r1 M1 H locs hp hw => ?_)
  obtain ⟨hr1, hp1⟩ := hp
  rw [hp1] at hw
  have hRZ1 := hRZ
  obtain ⟨sv, sl, iF, iN, at_, it, hR, hsv, hsl, hnx, hcn, hln⟩ := hRZ1
  have hR : Rf G M M b (F 0) sv sl fl T iF iN (nI ct) (nI len) at_ it := hR
  have hsv : SVr F nx ct sv := hsv
  have hsl : SLr F fl sl := hsl
  have hnx : nx < 8 := hnx
  have hcn : ct ≤ 8 := hcn
  have hln : len ≤ 120 := hln
  refine lv_aload_n hx hb dL_law_943 rfl (lv_at hl 1 rfl) ?_
  refine lv_aload_n hx hb dL_law_944 rfl (lv_at hl 3 rfl) ?_
  refine lv_iload_n hx hb dL_law_945 rfl (lv_at hl 0 rfl) ?_
  refine lv_iconst (v := 1) hx hb dL_law_946 (by decide) ?_
  refine lv_iadd hx hb dL_law_947 ?_
  refine va_sld hx hb hX hbl hbA hw.2.1 hin1 dL_law_948 ?_
  refine r_Vi cX hw hR.1.1 rfl [.int (xs (nI i + 1).toNatClampNeg)] (c_X7_pathChanges l G (f := F 0) hR.1 (xs (nI i + 1).toNatClampNeg)) wM_L_139 mw_X7_pathChanges ⟨Nat.le_of_ble_eq_true rfl, Nat.le_of_ble_eq_true rfl⟩ rfl rfl hl.1 (Nat.le_of_ble_eq_true rfl) dL_law_949 ⟨Nat.le_of_ble_eq_true rfl, Nat.le_of_ble_eq_true rfl⟩ (fun r2 M2 H locs hp hw => ?_)
  obtain ⟨hr2, hp2⟩ := hp
  rw [hp2] at hw
  refine lv_icmp_eq (tgt := 1111) hx hb dL_law_952 (by decide) (fun c0 => ?_) (fun c0 => ?_)
  · refine W.widen (k := 367) (n := 4106) (Nat.le_of_ble_eq_true rfl) (Nat.le_of_ble_eq_true rfl) ?_
    exact kk _ _ _ _ hw ⟨⟨tr, hC⟩, hRZ⟩ (hZ.mono (by omega))
  · exact absurd (hr1.trans hr2.symm) c0

set_option maxHeartbeats 4000000 in
set_option maxRecDepth 100000 in
theorem lc_reordered {p : Program} {l : Launch} {e : Env} {s : State} {m : MethodId} {args : Array Value} {below : List Frame} {meth : Method} {c : Code} {H : Heap} {locs : List Loc} {Q : State → Prop} {ls : Array Slot} {G : gG} {sb L : Nat} {xs : Nat → Int32} {ad b : Nat → Nat} {F : Nat → Nat → Int32} {nx ct : Nat} {fl T : Nat → Int32} {len : Nat} {B i : Nat} {M : HM} (C : LC p s m c G sb L xs) (hi : i + 3 ≤ L) (hL : L ≤ 1536) (hB : B + 120 < 2 ^ 30) (hap : Apt ad b) (hw : Wd G (LA s) s.heap M H locs) (hI : LI G M ad b (F, nx, ct, fl, T, len)) (hZ : ZI B (F, nx, ct, fl, T, len)) (hl : lv_has ls 4 [(3, .int (nI i)), (2, .ref (b 0)), (1, .ref (ad 0)), (0, .ref sb)]) (kk : ∀ (z : Sg) (M : HM) (H : Heap) (locs : List Loc), Wd G (LA s) s.heap M H locs → LI G M ad b z → ZI (B + 120) z → W p l e room_1 s m args below meth c H locs 367 4106 Q (F0 m 1111 ls [])) : W p l e room_1 s m args below meth c H locs 367 4106 Q (F0 m 957 ls []) := by
  obtain ⟨cX, hX, hbl⟩ := C
  have hx := cX.1
  have hb := cX.2.1
  have hbA : ¬ LA s sb := Nat.not_le.mpr hbl
  obtain ⟨⟨tr, hC⟩, hRZ⟩ := hI
  have hC : Cl G M M ad F nx ct fl T len tr := hC
  have hin1 : vp_in (nI i + 1) L := by rw [nI_1]; exact vp_in_nI (by omega) (by omega)
  have hin2 : vp_in (nI i + 2) L := by rw [show nI i + (2 : Int32) = nI (i + 2) from nI_add i 2]; exact vp_in_nI (by omega) (by omega)
  have hs8 : nx < 8 ∧ ct ≤ 8 ∧ len ≤ 120 := ⟨hC.1.2.2.2.2.2.2.2.2.2.1, hC.1.2.2.2.2.2.2.2.2.2.2.1, hC.1.2.2.2.2.2.2.2.2.2.2.2.1⟩
  refine lv_aload_n hx hb dL_law_957 rfl (lv_at hl 2 rfl) ?_
  refine lv_aload_n hx hb dL_law_958 rfl (lv_at hl 3 rfl) ?_
  refine lv_iload_n hx hb dL_law_959 rfl (lv_at hl 0 rfl) ?_
  refine lv_iconst (v := 1) hx hb dL_law_960 (by decide) ?_
  refine lv_iadd hx hb dL_law_961 ?_
  refine va_sld hx hb hX hbl hbA hw.2.1 hin1 dL_law_962 ?_
  refine r_Vi cX hw hC.1.1 rfl [.int (xs (nI i + 1).toNatClampNeg)] (c_X6_reordered l G hC.1 (xs (nI i + 1).toNatClampNeg) (hZ.1 0 (by decide))) wM_L_140 mw_X6_reordered ⟨Nat.le_of_ble_eq_true rfl, Nat.le_of_ble_eq_true rfl⟩ rfl rfl hl.1 (Nat.le_of_ble_eq_true rfl) dL_law_963 ⟨Nat.le_of_ble_eq_true rfl, Nat.le_of_ble_eq_true rfl⟩ (fun r1 M1 H locs hp hw => ?_)
  obtain ⟨hr1, hp1⟩ := hp
  rw [hp1] at hw
  have hRZ1 := hRZ
  obtain ⟨sv, sl, iF, iN, at_, it, hR, hsv, hsl, hnx, hcn, hln⟩ := hRZ1
  have hR : Rf G M M b (F 0) sv sl fl T iF iN (nI ct) (nI len) at_ it := hR
  have hsv : SVr F nx ct sv := hsv
  have hsl : SLr F fl sl := hsl
  have hnx : nx < 8 := hnx
  have hcn : ct ≤ 8 := hcn
  have hln : len ≤ 120 := hln
  refine lv_aload_n hx hb dL_law_966 rfl (lv_at hl 1 rfl) ?_
  refine lv_aload_n hx hb dL_law_967 rfl (lv_at hl 3 rfl) ?_
  refine lv_iload_n hx hb dL_law_968 rfl (lv_at hl 0 rfl) ?_
  refine lv_iconst (v := 1) hx hb dL_law_969 (by decide) ?_
  refine lv_iadd hx hb dL_law_970 ?_
  refine va_sld hx hb hX hbl hbA hw.2.1 hin1 dL_law_971 ?_
  refine r_Vi cX hw hR.1.1 rfl [.int (xs (nI i + 1).toNatClampNeg)] (c_X7_reordered l G (f := F 0) hR.1 (xs (nI i + 1).toNatClampNeg)) wM_L_143 mw_X7_reordered ⟨Nat.le_of_ble_eq_true rfl, Nat.le_of_ble_eq_true rfl⟩ rfl rfl hl.1 (Nat.le_of_ble_eq_true rfl) dL_law_972 ⟨Nat.le_of_ble_eq_true rfl, Nat.le_of_ble_eq_true rfl⟩ (fun r2 M2 H locs hp hw => ?_)
  obtain ⟨hr2, hp2⟩ := hp
  rw [hp2] at hw
  refine lv_icmp_eq (tgt := 1111) hx hb dL_law_975 (by decide) (fun c0 => ?_) (fun c0 => ?_)
  · refine W.widen (k := 367) (n := 4106) (Nat.le_of_ble_eq_true rfl) (Nat.le_of_ble_eq_true rfl) ?_
    exact kk _ _ _ _ hw ⟨⟨tr, hC⟩, hRZ⟩ (hZ.mono (by omega))
  · exact absurd (hr1.trans hr2.symm) c0

set_option maxHeartbeats 4000000 in
set_option maxRecDepth 100000 in
theorem lc_lastArrival {p : Program} {l : Launch} {e : Env} {s : State} {m : MethodId} {args : Array Value} {below : List Frame} {meth : Method} {c : Code} {H : Heap} {locs : List Loc} {Q : State → Prop} {ls : Array Slot} {G : gG} {sb L : Nat} {xs : Nat → Int32} {ad b : Nat → Nat} {F : Nat → Nat → Int32} {nx ct : Nat} {fl T : Nat → Int32} {len : Nat} {B i : Nat} {M : HM} (C : LC p s m c G sb L xs) (hi : i + 3 ≤ L) (hL : L ≤ 1536) (hB : B + 120 < 2 ^ 30) (hap : Apt ad b) (hw : Wd G (LA s) s.heap M H locs) (hI : LI G M ad b (F, nx, ct, fl, T, len)) (hZ : ZI B (F, nx, ct, fl, T, len)) (hl : lv_has ls 4 [(3, .int (nI i)), (2, .ref (b 0)), (1, .ref (ad 0)), (0, .ref sb)]) (kk : ∀ (z : Sg) (M : HM) (H : Heap) (locs : List Loc), Wd G (LA s) s.heap M H locs → LI G M ad b z → ZI (B + 120) z → W p l e room_1 s m args below meth c H locs 367 4106 Q (F0 m 1111 ls [])) : W p l e room_1 s m args below meth c H locs 367 4106 Q (F0 m 980 ls []) := by
  obtain ⟨cX, hX, hbl⟩ := C
  have hx := cX.1
  have hb := cX.2.1
  have hbA : ¬ LA s sb := Nat.not_le.mpr hbl
  obtain ⟨⟨tr, hC⟩, hRZ⟩ := hI
  have hC : Cl G M M ad F nx ct fl T len tr := hC
  have hin1 : vp_in (nI i + 1) L := by rw [nI_1]; exact vp_in_nI (by omega) (by omega)
  have hin2 : vp_in (nI i + 2) L := by rw [show nI i + (2 : Int32) = nI (i + 2) from nI_add i 2]; exact vp_in_nI (by omega) (by omega)
  have hs8 : nx < 8 ∧ ct ≤ 8 ∧ len ≤ 120 := ⟨hC.1.2.2.2.2.2.2.2.2.2.1, hC.1.2.2.2.2.2.2.2.2.2.2.1, hC.1.2.2.2.2.2.2.2.2.2.2.2.1⟩
  refine lv_aload_n hx hb dL_law_980 rfl (lv_at hl 2 rfl) ?_
  refine lv_aload_n hx hb dL_law_981 rfl (lv_at hl 3 rfl) ?_
  refine lv_iload_n hx hb dL_law_982 rfl (lv_at hl 0 rfl) ?_
  refine lv_iconst (v := 1) hx hb dL_law_983 (by decide) ?_
  refine lv_iadd hx hb dL_law_984 ?_
  refine va_sld hx hb hX hbl hbA hw.2.1 hin1 dL_law_985 ?_
  refine r_Vi cX hw hC.1.1 rfl [.int (xs (nI i + 1).toNatClampNeg)] (c_X6_lastArrival l G hC.1 (xs (nI i + 1).toNatClampNeg) (hZ.1 0 (by decide))) wM_L_144 mw_X6_lastArrival ⟨Nat.le_of_ble_eq_true rfl, Nat.le_of_ble_eq_true rfl⟩ rfl rfl hl.1 (Nat.le_of_ble_eq_true rfl) dL_law_986 ⟨Nat.le_of_ble_eq_true rfl, Nat.le_of_ble_eq_true rfl⟩ (fun r1 M1 H locs hp hw => ?_)
  obtain ⟨hr1, hp1⟩ := hp
  rw [hp1] at hw
  have hRZ1 := hRZ
  obtain ⟨sv, sl, iF, iN, at_, it, hR, hsv, hsl, hnx, hcn, hln⟩ := hRZ1
  have hR : Rf G M M b (F 0) sv sl fl T iF iN (nI ct) (nI len) at_ it := hR
  have hsv : SVr F nx ct sv := hsv
  have hsl : SLr F fl sl := hsl
  have hnx : nx < 8 := hnx
  have hcn : ct ≤ 8 := hcn
  have hln : len ≤ 120 := hln
  refine lv_aload_n hx hb dL_law_989 rfl (lv_at hl 1 rfl) ?_
  refine lv_aload_n hx hb dL_law_990 rfl (lv_at hl 3 rfl) ?_
  refine lv_iload_n hx hb dL_law_991 rfl (lv_at hl 0 rfl) ?_
  refine lv_iconst (v := 1) hx hb dL_law_992 (by decide) ?_
  refine lv_iadd hx hb dL_law_993 ?_
  refine va_sld hx hb hX hbl hbA hw.2.1 hin1 dL_law_994 ?_
  refine r_Vi cX hw hR.1.1 rfl [.int (xs (nI i + 1).toNatClampNeg)] (c_X7_lastArrival l G (f := F 0) hR.1 (xs (nI i + 1).toNatClampNeg)) wM_L_147 mw_X7_lastArrival ⟨Nat.le_of_ble_eq_true rfl, Nat.le_of_ble_eq_true rfl⟩ rfl rfl hl.1 (Nat.le_of_ble_eq_true rfl) dL_law_995 ⟨Nat.le_of_ble_eq_true rfl, Nat.le_of_ble_eq_true rfl⟩ (fun r2 M2 H locs hp hw => ?_)
  obtain ⟨hr2, hp2⟩ := hp
  rw [hp2] at hw
  refine lv_icmp_eq (tgt := 1111) hx hb dL_law_998 (by decide) (fun c0 => ?_) (fun c0 => ?_)
  · refine W.widen (k := 367) (n := 4106) (Nat.le_of_ble_eq_true rfl) (Nat.le_of_ble_eq_true rfl) ?_
    exact kk _ _ _ _ hw ⟨⟨tr, hC⟩, hRZ⟩ (hZ.mono (by omega))
  · exact absurd (hr1.trans hr2.symm) c0

set_option maxHeartbeats 4000000 in
set_option maxRecDepth 100000 in
theorem lc_appendCharacter {p : Program} {l : Launch} {e : Env} {s : State} {m : MethodId} {args : Array Value} {below : List Frame} {meth : Method} {c : Code} {H : Heap} {locs : List Loc} {Q : State → Prop} {ls : Array Slot} {G : gG} {sb L : Nat} {xs : Nat → Int32} {ad b : Nat → Nat} {F : Nat → Nat → Int32} {nx ct : Nat} {fl T : Nat → Int32} {len : Nat} {B i : Nat} {M : HM} (C : LC p s m c G sb L xs) (hi : i + 3 ≤ L) (hL : L ≤ 1536) (hB : B + 120 < 2 ^ 30) (hap : Apt ad b) (hw : Wd G (LA s) s.heap M H locs) (hI : LI G M ad b (F, nx, ct, fl, T, len)) (hZ : ZI B (F, nx, ct, fl, T, len)) (hl : lv_has ls 4 [(3, .int (nI i)), (2, .ref (b 0)), (1, .ref (ad 0)), (0, .ref sb)]) (kk : ∀ (z : Sg) (M : HM) (H : Heap) (locs : List Loc), Wd G (LA s) s.heap M H locs → LI G M ad b z → ZI (B + 120) z → W p l e room_1 s m args below meth c H locs 367 4106 Q (F0 m 1111 ls [])) : W p l e room_1 s m args below meth c H locs 367 4106 Q (F0 m 1003 ls []) := by
  obtain ⟨cX, hX, hbl⟩ := C
  have hx := cX.1
  have hb := cX.2.1
  have hbA : ¬ LA s sb := Nat.not_le.mpr hbl
  obtain ⟨⟨tr, hC⟩, hRZ⟩ := hI
  have hC : Cl G M M ad F nx ct fl T len tr := hC
  have hin1 : vp_in (nI i + 1) L := by rw [nI_1]; exact vp_in_nI (by omega) (by omega)
  have hin2 : vp_in (nI i + 2) L := by rw [show nI i + (2 : Int32) = nI (i + 2) from nI_add i 2]; exact vp_in_nI (by omega) (by omega)
  have hs8 : nx < 8 ∧ ct ≤ 8 ∧ len ≤ 120 := ⟨hC.1.2.2.2.2.2.2.2.2.2.1, hC.1.2.2.2.2.2.2.2.2.2.2.1, hC.1.2.2.2.2.2.2.2.2.2.2.2.1⟩
  refine lv_aload_n hx hb dL_law_1003 rfl (lv_at hl 2 rfl) ?_
  refine lv_aload_n hx hb dL_law_1004 rfl (lv_at hl 3 rfl) ?_
  refine lv_iload_n hx hb dL_law_1005 rfl (lv_at hl 0 rfl) ?_
  refine lv_iconst (v := 1) hx hb dL_law_1006 (by decide) ?_
  refine lv_iadd hx hb dL_law_1007 ?_
  refine va_sld hx hb hX hbl hbA hw.2.1 hin1 dL_law_1008 ?_
  refine r_Vi cX hw hC.1.1 rfl [.int (xs (nI i + 1).toNatClampNeg)] (c_X6_appendCharacter l G hC.1 (xs (nI i + 1).toNatClampNeg)) wM_L_148 mw_X6_appendCharacter ⟨Nat.le_of_ble_eq_true rfl, Nat.le_of_ble_eq_true rfl⟩ rfl rfl hl.1 (Nat.le_of_ble_eq_true rfl) dL_law_1009 ⟨Nat.le_of_ble_eq_true rfl, Nat.le_of_ble_eq_true rfl⟩ (fun r1 M1 H locs hp hw => ?_)
  obtain ⟨hr1, hp1⟩ := hp
  have hRZ1 := hRZ.off hp1.offc hap
  obtain ⟨sv, sl, iF, iN, at_, it, hR, hsv, hsl, hnx, hcn, hln⟩ := hRZ1
  have hR : Rf G M1 M1 b (F 0) sv sl fl T iF iN (nI ct) (nI len) at_ it := hR
  have hsv : SVr F nx ct sv := hsv
  have hsl : SLr F fl sl := hsl
  have hnx : nx < 8 := hnx
  have hcn : ct ≤ 8 := hcn
  have hln : len ≤ 120 := hln
  refine lv_aload_n hx hb dL_law_1012 rfl (lv_at hl 1 rfl) ?_
  refine lv_aload_n hx hb dL_law_1013 rfl (lv_at hl 3 rfl) ?_
  refine lv_iload_n hx hb dL_law_1014 rfl (lv_at hl 0 rfl) ?_
  refine lv_iconst (v := 1) hx hb dL_law_1015 (by decide) ?_
  refine lv_iadd hx hb dL_law_1016 ?_
  refine va_sld hx hb hX hbl hbA hw.2.1 hin1 dL_law_1017 ?_
  refine r_Vi cX hw hR.1.1 rfl [.int (xs (nI i + 1).toNatClampNeg)] (c_X7_appendCharacter l G (F := F) (nx := nx) (cn := ct) (ln := len) hR.1 hsv hsl hnx hcn hln (xs (nI i + 1).toNatClampNeg)) wM_L_151 mw_X7_appendCharacter ⟨Nat.le_of_ble_eq_true rfl, Nat.le_of_ble_eq_true rfl⟩ rfl rfl hl.1 (Nat.le_of_ble_eq_true rfl) dL_law_1018 ⟨Nat.le_of_ble_eq_true rfl, Nat.le_of_ble_eq_true rfl⟩ (fun r2 M2 H locs hp hw => ?_)
  obtain ⟨hr2, hp2⟩ := hp
  refine lv_icmp_eq (tgt := 1111) hx hb dL_law_1021 (by decide) (fun c0 => ?_) (fun c0 => ?_)
  · refine W.widen (k := 367) (n := 4106) (Nat.le_of_ble_eq_true rfl) (Nat.le_of_ble_eq_true rfl) ?_
    exact kk _ _ _ _ hw ⟨hp1.self.off hp2.offc hap, hp2.self⟩ (zi_append hZ (xs (nI i + 1).toNatClampNeg))
  · exact absurd (hr1.trans hr2.symm) c0

set_option maxHeartbeats 4000000 in
set_option maxRecDepth 100000 in
theorem lc_clearText {p : Program} {l : Launch} {e : Env} {s : State} {m : MethodId} {args : Array Value} {below : List Frame} {meth : Method} {c : Code} {H : Heap} {locs : List Loc} {Q : State → Prop} {ls : Array Slot} {G : gG} {sb L : Nat} {xs : Nat → Int32} {ad b : Nat → Nat} {F : Nat → Nat → Int32} {nx ct : Nat} {fl T : Nat → Int32} {len : Nat} {B i : Nat} {M : HM} (C : LC p s m c G sb L xs) (hi : i + 3 ≤ L) (hL : L ≤ 1536) (hB : B + 120 < 2 ^ 30) (hap : Apt ad b) (hw : Wd G (LA s) s.heap M H locs) (hI : LI G M ad b (F, nx, ct, fl, T, len)) (hZ : ZI B (F, nx, ct, fl, T, len)) (hl : lv_has ls 4 [(3, .int (nI i)), (2, .ref (b 0)), (1, .ref (ad 0)), (0, .ref sb)]) (kk : ∀ (z : Sg) (M : HM) (H : Heap) (locs : List Loc), Wd G (LA s) s.heap M H locs → LI G M ad b z → ZI (B + 120) z → W p l e room_1 s m args below meth c H locs 367 4106 Q (F0 m 1111 ls [])) : W p l e room_1 s m args below meth c H locs 367 4106 Q (F0 m 1026 ls []) := by
  obtain ⟨cX, hX, hbl⟩ := C
  have hx := cX.1
  have hb := cX.2.1
  have hbA : ¬ LA s sb := Nat.not_le.mpr hbl
  obtain ⟨⟨tr, hC⟩, hRZ⟩ := hI
  have hC : Cl G M M ad F nx ct fl T len tr := hC
  have hin1 : vp_in (nI i + 1) L := by rw [nI_1]; exact vp_in_nI (by omega) (by omega)
  have hin2 : vp_in (nI i + 2) L := by rw [show nI i + (2 : Int32) = nI (i + 2) from nI_add i 2]; exact vp_in_nI (by omega) (by omega)
  have hs8 : nx < 8 ∧ ct ≤ 8 ∧ len ≤ 120 := ⟨hC.1.2.2.2.2.2.2.2.2.2.1, hC.1.2.2.2.2.2.2.2.2.2.2.1, hC.1.2.2.2.2.2.2.2.2.2.2.2.1⟩
  refine lv_aload_n hx hb dL_law_1026 rfl (lv_at hl 2 rfl) ?_
  refine r_Vi cX hw hC.1.1 rfl [] (c_X6_clearText l G hC.1) wM_L_152 mw_X6_clearText ⟨Nat.le_of_ble_eq_true rfl, Nat.le_of_ble_eq_true rfl⟩ rfl rfl hl.1 (Nat.le_of_ble_eq_true rfl) dL_law_1027 ⟨Nat.le_of_ble_eq_true rfl, Nat.le_of_ble_eq_true rfl⟩ (fun r1 M1 H locs hp hw => ?_)
  obtain ⟨hr1, hp1⟩ := hp
  have hRZ1 := hRZ.off hp1.offc hap
  obtain ⟨sv, sl, iF, iN, at_, it, hR, hsv, hsl, hnx, hcn, hln⟩ := hRZ1
  have hR : Rf G M1 M1 b (F 0) sv sl fl T iF iN (nI ct) (nI len) at_ it := hR
  have hsv : SVr F nx ct sv := hsv
  have hsl : SLr F fl sl := hsl
  have hnx : nx < 8 := hnx
  have hcn : ct ≤ 8 := hcn
  have hln : len ≤ 120 := hln
  refine lv_aload_n hx hb dL_law_1030 rfl (lv_at hl 1 rfl) ?_
  refine r_Vi cX hw hR.1.1 rfl [] (c_X7_clearText l G (F := F) (nx := nx) (cn := ct) (ln := len) hR.1 hsv hsl hnx hcn hln) wM_L_155 mw_X7_clearText ⟨Nat.le_of_ble_eq_true rfl, Nat.le_of_ble_eq_true rfl⟩ rfl rfl hl.1 (Nat.le_of_ble_eq_true rfl) dL_law_1031 ⟨Nat.le_of_ble_eq_true rfl, Nat.le_of_ble_eq_true rfl⟩ (fun r2 M2 H locs hp hw => ?_)
  obtain ⟨hr2, hp2⟩ := hp
  refine lv_icmp_eq (tgt := 1111) hx hb dL_law_1034 (by decide) (fun c0 => ?_) (fun c0 => ?_)
  · refine W.widen (k := 367) (n := 4106) (Nat.le_of_ble_eq_true rfl) (Nat.le_of_ble_eq_true rfl) ?_
    exact kk _ _ _ _ hw ⟨hp1.self.off hp2.offc hap, hp2.self⟩ (zi_clearText hZ)
  · exact absurd (hr1.trans hr2.symm) c0

set_option maxHeartbeats 4000000 in
set_option maxRecDepth 100000 in
theorem lc_runTrace {p : Program} {l : Launch} {e : Env} {s : State} {m : MethodId} {args : Array Value} {below : List Frame} {meth : Method} {c : Code} {H : Heap} {locs : List Loc} {Q : State → Prop} {ls : Array Slot} {G : gG} {sb L : Nat} {xs : Nat → Int32} {ad b : Nat → Nat} {F : Nat → Nat → Int32} {nx ct : Nat} {fl T : Nat → Int32} {len : Nat} {B i : Nat} {M : HM} (C : LC p s m c G sb L xs) (hi : i + 3 ≤ L) (hL : L ≤ 1536) (hB : B + 120 < 2 ^ 30) (hap : Apt ad b) (hw : Wd G (LA s) s.heap M H locs) (hI : LI G M ad b (F, nx, ct, fl, T, len)) (hZ : ZI B (F, nx, ct, fl, T, len)) (hl : lv_has ls 4 [(3, .int (nI i)), (2, .ref (b 0)), (1, .ref (ad 0)), (0, .ref sb)]) (kk : ∀ (z : Sg) (M : HM) (H : Heap) (locs : List Loc), Wd G (LA s) s.heap M H locs → LI G M ad b z → ZI (B + 120) z → W p l e room_1 s m args below meth c H locs 367 4106 Q (F0 m 1111 ls [])) : W p l e room_1 s m args below meth c H locs 367 4106 Q (F0 m 1039 ls []) := by
  obtain ⟨cX, hX, hbl⟩ := C
  have hx := cX.1
  have hb := cX.2.1
  have hbA : ¬ LA s sb := Nat.not_le.mpr hbl
  obtain ⟨⟨tr, hC⟩, hRZ⟩ := hI
  have hC : Cl G M M ad F nx ct fl T len tr := hC
  have hin1 : vp_in (nI i + 1) L := by rw [nI_1]; exact vp_in_nI (by omega) (by omega)
  have hin2 : vp_in (nI i + 2) L := by rw [show nI i + (2 : Int32) = nI (i + 2) from nI_add i 2]; exact vp_in_nI (by omega) (by omega)
  have hs8 : nx < 8 ∧ ct ≤ 8 ∧ len ≤ 120 := ⟨hC.1.2.2.2.2.2.2.2.2.2.1, hC.1.2.2.2.2.2.2.2.2.2.2.1, hC.1.2.2.2.2.2.2.2.2.2.2.2.1⟩
  refine lv_aload_n hx hb dL_law_1039 rfl (lv_at hl 2 rfl) ?_
  refine r_Vi cX hw hC.1.1 rfl [] (c_X6_runTrace l G hC.1 (hZ.1 0 (by decide)) hB) wM_L_156 mw_X6_runTrace ⟨Nat.le_of_ble_eq_true rfl, Nat.le_of_ble_eq_true rfl⟩ rfl rfl hl.1 (Nat.le_of_ble_eq_true rfl) dL_law_1040 ⟨Nat.le_of_ble_eq_true rfl, Nat.le_of_ble_eq_true rfl⟩ (fun r1 M1 H locs hp hw => ?_)
  obtain ⟨hr1, hp1⟩ := hp
  have hRZ1 := hRZ.off hp1.offc hap
  obtain ⟨sv, sl, iF, iN, at_, it, hR, hsv, hsl, hnx, hcn, hln⟩ := hRZ1
  have hR : Rf G M1 M1 b (F 0) sv sl fl T iF iN (nI ct) (nI len) at_ it := hR
  have hsv : SVr F nx ct sv := hsv
  have hsl : SLr F fl sl := hsl
  have hnx : nx < 8 := hnx
  have hcn : ct ≤ 8 := hcn
  have hln : len ≤ 120 := hln
  refine lv_aload_n hx hb dL_law_1043 rfl (lv_at hl 1 rfl) ?_
  refine r_Vi cX hw hR.1.1 rfl [] (c_X7_runTrace l G (F := F) (nx := nx) (cn := ct) (ln := len) hR.1 hsv hsl hnx hcn hln (hZ.1 0 (by decide)) hB hZ.2) wM_L_159 mw_X7_runTrace ⟨Nat.le_of_ble_eq_true rfl, Nat.le_of_ble_eq_true rfl⟩ rfl rfl hl.1 (Nat.le_of_ble_eq_true rfl) dL_law_1044 ⟨Nat.le_of_ble_eq_true rfl, Nat.le_of_ble_eq_true rfl⟩ (fun r2 M2 H locs hp hw => ?_)
  obtain ⟨hr2, hp2⟩ := hp
  refine lv_icmp_eq (tgt := 1111) hx hb dL_law_1047 (by decide) (fun c0 => ?_) (fun c0 => ?_)
  · refine W.widen (k := 367) (n := 4106) (Nat.le_of_ble_eq_true rfl) (Nat.le_of_ble_eq_true rfl) ?_
    exact kk _ _ _ _ hw ⟨hp1.self.off hp2.offc hap, hp2.self⟩ (zi_runTrace hZ hnx hln hB)
  · exact absurd (hr1.trans hr2.symm) c0

set_option maxHeartbeats 4000000 in
set_option maxRecDepth 100000 in
theorem lc_undo {p : Program} {l : Launch} {e : Env} {s : State} {m : MethodId} {args : Array Value} {below : List Frame} {meth : Method} {c : Code} {H : Heap} {locs : List Loc} {Q : State → Prop} {ls : Array Slot} {G : gG} {sb L : Nat} {xs : Nat → Int32} {ad b : Nat → Nat} {F : Nat → Nat → Int32} {nx ct : Nat} {fl T : Nat → Int32} {len : Nat} {B i : Nat} {M : HM} (C : LC p s m c G sb L xs) (hi : i + 3 ≤ L) (hL : L ≤ 1536) (hB : B + 120 < 2 ^ 30) (hap : Apt ad b) (hw : Wd G (LA s) s.heap M H locs) (hI : LI G M ad b (F, nx, ct, fl, T, len)) (hZ : ZI B (F, nx, ct, fl, T, len)) (hl : lv_has ls 4 [(3, .int (nI i)), (2, .ref (b 0)), (1, .ref (ad 0)), (0, .ref sb)]) (kk : ∀ (z : Sg) (M : HM) (H : Heap) (locs : List Loc), Wd G (LA s) s.heap M H locs → LI G M ad b z → ZI (B + 120) z → W p l e room_1 s m args below meth c H locs 367 4106 Q (F0 m 1111 ls [])) : W p l e room_1 s m args below meth c H locs 367 4106 Q (F0 m 1052 ls []) := by
  obtain ⟨cX, hX, hbl⟩ := C
  have hx := cX.1
  have hb := cX.2.1
  have hbA : ¬ LA s sb := Nat.not_le.mpr hbl
  obtain ⟨⟨tr, hC⟩, hRZ⟩ := hI
  have hC : Cl G M M ad F nx ct fl T len tr := hC
  have hin1 : vp_in (nI i + 1) L := by rw [nI_1]; exact vp_in_nI (by omega) (by omega)
  have hin2 : vp_in (nI i + 2) L := by rw [show nI i + (2 : Int32) = nI (i + 2) from nI_add i 2]; exact vp_in_nI (by omega) (by omega)
  have hs8 : nx < 8 ∧ ct ≤ 8 ∧ len ≤ 120 := ⟨hC.1.2.2.2.2.2.2.2.2.2.1, hC.1.2.2.2.2.2.2.2.2.2.2.1, hC.1.2.2.2.2.2.2.2.2.2.2.2.1⟩
  refine lv_aload_n hx hb dL_law_1052 rfl (lv_at hl 2 rfl) ?_
  refine r_Vi cX hw hC.1.1 rfl [] (c_X6_undo l G hC.1) wM_L_160 mw_X6_undo ⟨Nat.le_of_ble_eq_true rfl, Nat.le_of_ble_eq_true rfl⟩ rfl rfl hl.1 (Nat.le_of_ble_eq_true rfl) dL_law_1053 ⟨Nat.le_of_ble_eq_true rfl, Nat.le_of_ble_eq_true rfl⟩ (fun r1 M1 H locs hp hw => ?_)
  obtain ⟨hr1, hp1⟩ := hp
  have hRZ1 := hRZ.off hp1.offc hap
  obtain ⟨sv, sl, iF, iN, at_, it, hR, hsv, hsl, hnx, hcn, hln⟩ := hRZ1
  have hR : Rf G M1 M1 b (F 0) sv sl fl T iF iN (nI ct) (nI len) at_ it := hR
  have hsv : SVr F nx ct sv := hsv
  have hsl : SLr F fl sl := hsl
  have hnx : nx < 8 := hnx
  have hcn : ct ≤ 8 := hcn
  have hln : len ≤ 120 := hln
  refine lv_aload_n hx hb dL_law_1056 rfl (lv_at hl 1 rfl) ?_
  refine r_Vi cX hw hR.1.1 rfl [] (c_X7_undo l G (F := F) (nx := nx) (cn := ct) (ln := len) hR.1 hsv hsl hnx hcn hln) wM_L_163 mw_X7_undo ⟨Nat.le_of_ble_eq_true rfl, Nat.le_of_ble_eq_true rfl⟩ rfl rfl hl.1 (Nat.le_of_ble_eq_true rfl) dL_law_1057 ⟨Nat.le_of_ble_eq_true rfl, Nat.le_of_ble_eq_true rfl⟩ (fun r2 M2 H locs hp hw => ?_)
  obtain ⟨hr2, hp2⟩ := hp
  refine lv_icmp_eq (tgt := 1111) hx hb dL_law_1060 (by decide) (fun c0 => ?_) (fun c0 => ?_)
  · refine W.widen (k := 367) (n := 4106) (Nat.le_of_ble_eq_true rfl) (Nat.le_of_ble_eq_true rfl) ?_
    exact kk _ _ _ _ hw ⟨hp1.self.off hp2.offc hap, hp2.self⟩ (zi_undo hZ)
  · exact absurd (hr1.trans hr2.symm) c0

set_option maxHeartbeats 4000000 in
set_option maxRecDepth 100000 in
theorem lc_save {p : Program} {l : Launch} {e : Env} {s : State} {m : MethodId} {args : Array Value} {below : List Frame} {meth : Method} {c : Code} {H : Heap} {locs : List Loc} {Q : State → Prop} {ls : Array Slot} {G : gG} {sb L : Nat} {xs : Nat → Int32} {ad b : Nat → Nat} {F : Nat → Nat → Int32} {nx ct : Nat} {fl T : Nat → Int32} {len : Nat} {B i : Nat} {M : HM} (C : LC p s m c G sb L xs) (hi : i + 3 ≤ L) (hL : L ≤ 1536) (hB : B + 120 < 2 ^ 30) (hap : Apt ad b) (hw : Wd G (LA s) s.heap M H locs) (hI : LI G M ad b (F, nx, ct, fl, T, len)) (hZ : ZI B (F, nx, ct, fl, T, len)) (hl : lv_has ls 4 [(3, .int (nI i)), (2, .ref (b 0)), (1, .ref (ad 0)), (0, .ref sb)]) (kk : ∀ (z : Sg) (M : HM) (H : Heap) (locs : List Loc), Wd G (LA s) s.heap M H locs → LI G M ad b z → ZI (B + 120) z → W p l e room_1 s m args below meth c H locs 367 4106 Q (F0 m 1111 ls [])) : W p l e room_1 s m args below meth c H locs 367 4106 Q (F0 m 1065 ls []) := by
  obtain ⟨cX, hX, hbl⟩ := C
  have hx := cX.1
  have hb := cX.2.1
  have hbA : ¬ LA s sb := Nat.not_le.mpr hbl
  obtain ⟨⟨tr, hC⟩, hRZ⟩ := hI
  have hC : Cl G M M ad F nx ct fl T len tr := hC
  have hin1 : vp_in (nI i + 1) L := by rw [nI_1]; exact vp_in_nI (by omega) (by omega)
  have hin2 : vp_in (nI i + 2) L := by rw [show nI i + (2 : Int32) = nI (i + 2) from nI_add i 2]; exact vp_in_nI (by omega) (by omega)
  have hs8 : nx < 8 ∧ ct ≤ 8 ∧ len ≤ 120 := ⟨hC.1.2.2.2.2.2.2.2.2.2.1, hC.1.2.2.2.2.2.2.2.2.2.2.1, hC.1.2.2.2.2.2.2.2.2.2.2.2.1⟩
  refine lv_aload_n hx hb dL_law_1065 rfl (lv_at hl 2 rfl) ?_
  refine lv_aload_n hx hb dL_law_1066 rfl (lv_at hl 3 rfl) ?_
  refine lv_iload_n hx hb dL_law_1067 rfl (lv_at hl 0 rfl) ?_
  refine lv_iconst (v := 1) hx hb dL_law_1068 (by decide) ?_
  refine lv_iadd hx hb dL_law_1069 ?_
  refine va_sld hx hb hX hbl hbA hw.2.1 hin1 dL_law_1070 ?_
  refine r_Vi cX hw hC.1.1 rfl [.int (xs (nI i + 1).toNatClampNeg)] (c_X6_save l G hC.1 (xs (nI i + 1).toNatClampNeg)) wM_L_164 mw_X6_save ⟨Nat.le_of_ble_eq_true rfl, Nat.le_of_ble_eq_true rfl⟩ rfl rfl hl.1 (Nat.le_of_ble_eq_true rfl) dL_law_1071 ⟨Nat.le_of_ble_eq_true rfl, Nat.le_of_ble_eq_true rfl⟩ (fun r1 M1 H locs hp hw => ?_)
  obtain ⟨hr1, hp1⟩ := hp
  have hRZ1 := hRZ.off hp1.offc hap
  obtain ⟨sv, sl, iF, iN, at_, it, hR, hsv, hsl, hnx, hcn, hln⟩ := hRZ1
  have hR : Rf G M1 M1 b (F 0) sv sl fl T iF iN (nI ct) (nI len) at_ it := hR
  have hsv : SVr F nx ct sv := hsv
  have hsl : SLr F fl sl := hsl
  have hnx : nx < 8 := hnx
  have hcn : ct ≤ 8 := hcn
  have hln : len ≤ 120 := hln
  refine lv_aload_n hx hb dL_law_1074 rfl (lv_at hl 1 rfl) ?_
  refine lv_aload_n hx hb dL_law_1075 rfl (lv_at hl 3 rfl) ?_
  refine lv_iload_n hx hb dL_law_1076 rfl (lv_at hl 0 rfl) ?_
  refine lv_iconst (v := 1) hx hb dL_law_1077 (by decide) ?_
  refine lv_iadd hx hb dL_law_1078 ?_
  refine va_sld hx hb hX hbl hbA hw.2.1 hin1 dL_law_1079 ?_
  refine r_Vi cX hw hR.1.1 rfl [.int (xs (nI i + 1).toNatClampNeg)] (c_X7_save l G (F := F) (nx := nx) (cn := ct) (ln := len) hR.1 hsv hsl hnx hcn hln (xs (nI i + 1).toNatClampNeg)) wM_L_167 mw_X7_save ⟨Nat.le_of_ble_eq_true rfl, Nat.le_of_ble_eq_true rfl⟩ rfl rfl hl.1 (Nat.le_of_ble_eq_true rfl) dL_law_1080 ⟨Nat.le_of_ble_eq_true rfl, Nat.le_of_ble_eq_true rfl⟩ (fun r2 M2 H locs hp hw => ?_)
  obtain ⟨hr2, hp2⟩ := hp
  refine lv_icmp_eq (tgt := 1111) hx hb dL_law_1083 (by decide) (fun c0 => ?_) (fun c0 => ?_)
  · refine W.widen (k := 367) (n := 4106) (Nat.le_of_ble_eq_true rfl) (Nat.le_of_ble_eq_true rfl) ?_
    exact kk _ _ _ _ hw ⟨hp1.self.off hp2.offc hap, hp2.self⟩ (zi_save hZ (xs (nI i + 1).toNatClampNeg))
  · exact absurd (hr1.trans hr2.symm) c0

set_option maxHeartbeats 4000000 in
set_option maxRecDepth 100000 in
theorem lc_restore {p : Program} {l : Launch} {e : Env} {s : State} {m : MethodId} {args : Array Value} {below : List Frame} {meth : Method} {c : Code} {H : Heap} {locs : List Loc} {Q : State → Prop} {ls : Array Slot} {G : gG} {sb L : Nat} {xs : Nat → Int32} {ad b : Nat → Nat} {F : Nat → Nat → Int32} {nx ct : Nat} {fl T : Nat → Int32} {len : Nat} {B i : Nat} {M : HM} (C : LC p s m c G sb L xs) (hi : i + 3 ≤ L) (hL : L ≤ 1536) (hB : B + 120 < 2 ^ 30) (hap : Apt ad b) (hw : Wd G (LA s) s.heap M H locs) (hI : LI G M ad b (F, nx, ct, fl, T, len)) (hZ : ZI B (F, nx, ct, fl, T, len)) (hl : lv_has ls 4 [(3, .int (nI i)), (2, .ref (b 0)), (1, .ref (ad 0)), (0, .ref sb)]) (kk : ∀ (z : Sg) (M : HM) (H : Heap) (locs : List Loc), Wd G (LA s) s.heap M H locs → LI G M ad b z → ZI (B + 120) z → W p l e room_1 s m args below meth c H locs 367 4106 Q (F0 m 1111 ls [])) : W p l e room_1 s m args below meth c H locs 367 4106 Q (F0 m 1088 ls []) := by
  obtain ⟨cX, hX, hbl⟩ := C
  have hx := cX.1
  have hb := cX.2.1
  have hbA : ¬ LA s sb := Nat.not_le.mpr hbl
  obtain ⟨⟨tr, hC⟩, hRZ⟩ := hI
  have hC : Cl G M M ad F nx ct fl T len tr := hC
  have hin1 : vp_in (nI i + 1) L := by rw [nI_1]; exact vp_in_nI (by omega) (by omega)
  have hin2 : vp_in (nI i + 2) L := by rw [show nI i + (2 : Int32) = nI (i + 2) from nI_add i 2]; exact vp_in_nI (by omega) (by omega)
  have hs8 : nx < 8 ∧ ct ≤ 8 ∧ len ≤ 120 := ⟨hC.1.2.2.2.2.2.2.2.2.2.1, hC.1.2.2.2.2.2.2.2.2.2.2.1, hC.1.2.2.2.2.2.2.2.2.2.2.2.1⟩
  refine lv_aload_n hx hb dL_law_1088 rfl (lv_at hl 2 rfl) ?_
  refine lv_aload_n hx hb dL_law_1089 rfl (lv_at hl 3 rfl) ?_
  refine lv_iload_n hx hb dL_law_1090 rfl (lv_at hl 0 rfl) ?_
  refine lv_iconst (v := 1) hx hb dL_law_1091 (by decide) ?_
  refine lv_iadd hx hb dL_law_1092 ?_
  refine va_sld hx hb hX hbl hbA hw.2.1 hin1 dL_law_1093 ?_
  refine r_Vi cX hw hC.1.1 rfl [.int (xs (nI i + 1).toNatClampNeg)] (c_X6_restore l G hC.1 (xs (nI i + 1).toNatClampNeg)) wM_L_168 mw_X6_restore ⟨Nat.le_of_ble_eq_true rfl, Nat.le_of_ble_eq_true rfl⟩ rfl rfl hl.1 (Nat.le_of_ble_eq_true rfl) dL_law_1094 ⟨Nat.le_of_ble_eq_true rfl, Nat.le_of_ble_eq_true rfl⟩ (fun r1 M1 H locs hp hw => ?_)
  obtain ⟨hr1, hp1⟩ := hp
  have hRZ1 := hRZ.off hp1.offc hap
  obtain ⟨sv, sl, iF, iN, at_, it, hR, hsv, hsl, hnx, hcn, hln⟩ := hRZ1
  have hR : Rf G M1 M1 b (F 0) sv sl fl T iF iN (nI ct) (nI len) at_ it := hR
  have hsv : SVr F nx ct sv := hsv
  have hsl : SLr F fl sl := hsl
  have hnx : nx < 8 := hnx
  have hcn : ct ≤ 8 := hcn
  have hln : len ≤ 120 := hln
  refine lv_aload_n hx hb dL_law_1097 rfl (lv_at hl 1 rfl) ?_
  refine lv_aload_n hx hb dL_law_1098 rfl (lv_at hl 3 rfl) ?_
  refine lv_iload_n hx hb dL_law_1099 rfl (lv_at hl 0 rfl) ?_
  refine lv_iconst (v := 1) hx hb dL_law_1100 (by decide) ?_
  refine lv_iadd hx hb dL_law_1101 ?_
  refine va_sld hx hb hX hbl hbA hw.2.1 hin1 dL_law_1102 ?_
  refine r_Vi cX hw hR.1.1 rfl [.int (xs (nI i + 1).toNatClampNeg)] (c_X7_restore l G (F := F) (nx := nx) (cn := ct) (ln := len) hR.1 hsv hsl hnx hcn hln (xs (nI i + 1).toNatClampNeg)) wM_L_171 mw_X7_restore ⟨Nat.le_of_ble_eq_true rfl, Nat.le_of_ble_eq_true rfl⟩ rfl rfl hl.1 (Nat.le_of_ble_eq_true rfl) dL_law_1103 ⟨Nat.le_of_ble_eq_true rfl, Nat.le_of_ble_eq_true rfl⟩ (fun r2 M2 H locs hp hw => ?_)
  obtain ⟨hr2, hp2⟩ := hp
  refine lv_icmp_eq (tgt := 1111) hx hb dL_law_1106 (by decide) (fun c0 => ?_) (fun c0 => ?_)
  · refine W.widen (k := 367) (n := 4106) (Nat.le_of_ble_eq_true rfl) (Nat.le_of_ble_eq_true rfl) ?_
    exact kk _ _ _ _ hw ⟨hp1.self.off hp2.offc hap, hp2.self⟩ (zi_restore hZ (xs (nI i + 1).toNatClampNeg))
  · exact absurd (hr1.trans hr2.symm) c0
