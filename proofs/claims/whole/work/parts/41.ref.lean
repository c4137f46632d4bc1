theorem cg_le {l r : Int32} (h : l ≤ r) : (if l < r then r else l) = r := by
  by_cases q : l < r
  · rw [if_pos q]
  · rw [if_neg q]
    exact Int32.le_antisymm h (Int32.not_lt.mp q)
theorem cg_gt {l r : Int32} (h : ¬ l ≤ r) : (if l < r then r else l) = l := if_neg (fun q => h (Int32.le_of_lt q))
theorem wt_le {b t : Int32} (h : b - t ≤ 0) : wt b t = 0 := by
  unfold wt
  by_cases q : b - t < 0
  · rw [if_pos q]
  · rw [if_neg q]
    exact Int32.le_antisymm h (Int32.not_lt.mp q)
theorem wt_gt {b t : Int32} (h : ¬ b - t ≤ 0) : wt b t = b - t := if_neg (fun q => h (Int32.le_of_lt q))
theorem i32_cancel (a c : Int32) : a + c - a = c := by
  first
    | (rw [Int32.add_comm]; simp; done)
    | (simp; done)
    | grind
theorem Inv.lat {B : Nat} {f : Nat → Int32} (h : Inv B f) (j : Nat) (hj : j < 4) (size : Int32) : enF f j size + f (9 + j) - f 0 = laF f size j := by
  rw [← h.arr2 j hj size]
  exact i32_cancel _ _
theorem nx_ref {g : Nat} (hg : g < 2 ^ 31) : ((nI g).toInt64 * 1103515245 + 12345 - ((nI g).toInt64 * 1103515245 + 12345) / 2147483648 * 2147483648).toInt32 = nx (nI g) := by
  have h1 : (nI g).toInt64 * 1103515245 + 12345 = lN (g * 1103515245 + 12345) := by
    rw [nI_l hg, show (1103515245 : Int64) = lN 1103515245 from rfl, lN_mul, show (12345 : Int64) = lN 12345 from rfl, lN_add]
  rw [h1, show (2147483648 : Int64) = lN 2147483648 from rfl, pk_lRem (by omega) (by omega) (by omega), lN_i]
  unfold nx
  have h2 : (1103515245 : Int32) * nI g + 12345 = nI (g * 1103515245 + 12345) := by
    rw [show (1103515245 : Int32) = nI 1103515245 from rfl, pk_mul, show (12345 : Int32) = nI 12345 from rfl, nI_add, Nat.mul_comm]
  rw [h2, pk_and _ 31 (by decide)]
  refine congrArg nI ?_
  have h3 : (nI (g * 1103515245 + 12345)).toBitVec.toNat = (g * 1103515245 + 12345) % 2 ^ 32 := by
    show (BitVec.ofNat 32 (g * 1103515245 + 12345)).toNat = _
    exact BitVec.toNat_ofNat _ _
  rw [h3]
  omega
set_option maxHeartbeats 4000000 in
set_option maxRecDepth 100000 in
theorem c_X7_in (l : Launch) (G : gG) {M : HM} (v lo hi : Int32) : Ci l yX7_in cX7_in 3 .boolean (rd 0 0 0) G [.int v, .int lo, .int hi] M (fun r M' => r = (if lo ≤ v ∧ v ≤ hi then 1 else 0) ∧ M' = M) := by
  refine Ci.of (by decide) (Nat.le_of_ble_eq_true rfl) ?_
  intro p e s m args below meth c ls cX hw hlocks hr hl
  have hx := cX.1
  have hb := cX.2.1
  have hl : lv_has ls 3 [(0, .int v), (1, .int lo), (2, .int hi)] := hl
  refine lv_iload_n hx hb dX7_in_0 rfl (lv_at hl 0 rfl) ?_
  refine lv_iload_n hx hb dX7_in_1 rfl (lv_at hl 1 rfl) ?_
  refine lv_icmp_lt (tgt := 14) hx hb dX7_in_2 (by decide) (fun c2 => ?_) (fun c2 => ?_)
  · refine lv_iconst (v := 0) hx hb dX7_in_14 (by decide) ?_
    exact r_zret cX hr hlocks rfl hw ⟨(if_neg (fun h => Int32.not_le.mpr c2 h.1)).symm, rfl⟩ dX7_in_15
  · refine lv_iload_n hx hb dX7_in_5 rfl (lv_at hl 0 rfl) ?_
    refine lv_iload_n hx hb dX7_in_6 rfl (lv_at hl 2 rfl) ?_
    refine lv_icmp_gt (tgt := 14) hx hb dX7_in_7 (by decide) (fun c7 => ?_) (fun c7 => ?_)
    · refine lv_iconst (v := 0) hx hb dX7_in_14 (by decide) ?_
      exact r_zret cX hr hlocks rfl hw ⟨(if_neg (fun h => Int32.not_le.mpr c7 h.2)).symm, rfl⟩ dX7_in_15
    · refine lv_iconst (v := 1) hx hb dX7_in_10 (by decide) ?_
      refine lv_goto (tgt := 15) hx hb dX7_in_11 (by decide) ?_
      exact r_zret cX hr hlocks rfl hw ⟨(if_pos ⟨Int32.not_lt.mp c2, Int32.not_lt.mp c7⟩).symm, rfl⟩ dX7_in_15

set_option maxHeartbeats 4000000 in
set_option maxRecDepth 100000 in
theorem c_X7_isFlow (l : Launch) (G : gG) {M : HM} (v : Int32) : Ci l yX7_isFlow cX7_isFlow 1 .boolean (rd 1 0 0) G [.int v] M (fun r M' => r = (if 0 ≤ v ∧ v ≤ 15 then 1 else 0) ∧ M' = M) := by
  refine Ci.of (by decide) (Nat.le_of_ble_eq_true rfl) ?_
  intro p e s m args below meth c ls cX hw hlocks hr hl
  have hx := cX.1
  have hb := cX.2.1
  have hl : lv_has ls 1 [(0, .int v)] := hl
  refine lv_iload_n hx hb dX7_isFlow_0 rfl (lv_at hl 0 rfl) ?_
  refine lv_iconst (v := 0) hx hb dX7_isFlow_1 (by decide) ?_
  refine lv_bipush (v := 15) hx hb dX7_isFlow_2 (by decide) ?_
  refine r_Si cX hw [.int v, .int 0, .int 15] (c_X7_in l G v 0 15) wM_X7_36 mw_X7_in ⟨Nat.le_of_ble_eq_true rfl, Nat.le_of_ble_eq_true rfl⟩ rfl rfl hl.1 (Nat.le_of_ble_eq_true rfl) dX7_isFlow_4 ⟨Nat.le_of_ble_eq_true rfl, Nat.le_of_ble_eq_true rfl⟩ (fun r M1 H locs hp hw => ?_)
  obtain ⟨hr1, hq⟩ := hp
  subst hr1
  rw [hq] at hw
  exact r_zret cX hr hlocks (z01n (if01 _)) hw ⟨rfl, rfl⟩ dX7_isFlow_7

set_option maxHeartbeats 4000000 in
set_option maxRecDepth 100000 in
theorem c_X7_isSize (l : Launch) (G : gG) {M : HM} (v : Int32) : Ci l yX7_isSize cX7_isSize 1 .boolean (rd 1 0 0) G [.int v] M (fun r M' => r = (if 1 ≤ v ∧ v ≤ 1000 then 1 else 0) ∧ M' = M) := by
  refine Ci.of (by decide) (Nat.le_of_ble_eq_true rfl) ?_
  intro p e s m args below meth c ls cX hw hlocks hr hl
  have hx := cX.1
  have hb := cX.2.1
  have hl : lv_has ls 1 [(0, .int v)] := hl
  refine lv_iload_n hx hb dX7_isSize_0 rfl (lv_at hl 0 rfl) ?_
  refine lv_iconst (v := 1) hx hb dX7_isSize_1 (by decide) ?_
  refine lv_sipush (v := 1000) hx hb dX7_isSize_2 (by decide) ?_
  refine r_Si cX hw [.int v, .int 1, .int 1000] (c_X7_in l G v 1 1000) wM_X7_36 mw_X7_in ⟨Nat.le_of_ble_eq_true rfl, Nat.le_of_ble_eq_true rfl⟩ rfl rfl hl.1 (Nat.le_of_ble_eq_true rfl) dX7_isSize_5 ⟨Nat.le_of_ble_eq_true rfl, Nat.le_of_ble_eq_true rfl⟩ (fun r M1 H locs hp hw => ?_)
  obtain ⟨hr1, hq⟩ := hp
  subst hr1
  rw [hq] at hw
  exact r_zret cX hr hlocks (z01n (if01 _)) hw ⟨rfl, rfl⟩ dX7_isSize_8

set_option maxHeartbeats 4000000 in
set_option maxRecDepth 100000 in
theorem c_X7_isPath (l : Launch) (G : gG) {M : HM} {b : Nat → Nat} {f sv sl fl T iF iN : Nat → Int32} {ct len at_ it : Int32} (hR0 : IsRf G M b f sv sl fl T iF iN ct len at_ it) (v : Int32) : Ci l yX7_isPath cX7_isPath 2 .boolean (rd 1 0 0) G [.ref (b 0), .int v] M (fun r M' => r = (if 0 ≤ v ∧ v ≤ f 1 - 1 then 1 else 0) ∧ M' = M) := by
  refine Ci.of (by decide) (Nat.le_of_ble_eq_true rfl) ?_
  intro p e s m args below meth c ls cX hw hlocks hr hl
  have hx := cX.1
  have hb := cX.2.1
  have hl : lv_has ls 2 [(0, .ref (b 0)), (1, .int v)] := hl
  have hR := hR0.rf
  refine lv_iload_n hx hb dX7_isPath_0 rfl (lv_at hl 1 rfl) ?_
  refine lv_iconst (v := 0) hx hb dX7_isPath_1 (by decide) ?_
  refine lv_aload_n hx hb dX7_isPath_2 rfl (lv_at hl 0 rfl) ?_
  refine r_get cX inX7 hw hR.1.1 rfl 0 (by decide) wF_X7_7 rfl dX7_isPath_3 ?_
  refine lv_iconst (v := 1) hx hb dX7_isPath_6 (by decide) ?_
  refine r_iald (v := f 1) cX hw hR.1.2.1 1 rfl (by decide) (by decide) rfl dX7_isPath_7 ?_
  refine lv_iconst (v := 1) hx hb dX7_isPath_8 (by decide) ?_
  refine lv_isub hx hb dX7_isPath_9 ?_
  refine r_Si cX hw [.int v, .int 0, .int ((f 1) - 1)] (c_X7_in l G v 0 ((f 1) - 1)) wM_X7_36 mw_X7_in ⟨Nat.le_of_ble_eq_true rfl, Nat.le_of_ble_eq_true rfl⟩ rfl rfl hl.1 (Nat.le_of_ble_eq_true rfl) dX7_isPath_10 ⟨Nat.le_of_ble_eq_true rfl, Nat.le_of_ble_eq_true rfl⟩ (fun r M1 H locs hp hw => ?_)
  obtain ⟨hr1, hq⟩ := hp
  subst hr1
  rw [hq] at hw
  exact r_zret cX hr hlocks (z01n (if01 _)) hw ⟨rfl, rfl⟩ dX7_isPath_13

set_option maxHeartbeats 4000000 in
set_option maxRecDepth 100000 in
theorem c_X7_isEntry (l : Launch) (G : gG) {M : HM} {b : Nat → Nat} {f sv sl fl T iF iN : Nat → Int32} {ct len at_ it : Int32} (hR0 : IsRf G M b f sv sl fl T iF iN ct len at_ it) (v : Int32) : Ci l yX7_isEntry cX7_isEntry 2 .boolean (rd 1 0 0) G [.ref (b 0), .int v] M (fun r M' => r = (if 0 ≤ v ∧ v ≤ f 2 - 1 then 1 else 0) ∧ M' = M) := by
  refine Ci.of (by decide) (Nat.le_of_ble_eq_true rfl) ?_
  intro p e s m args below meth c ls cX hw hlocks hr hl
  have hx := cX.1
  have hb := cX.2.1
  have hl : lv_has ls 2 [(0, .ref (b 0)), (1, .int v)] := hl
  have hR := hR0.rf
  refine lv_iload_n hx hb dX7_isEntry_0 rfl (lv_at hl 1 rfl) ?_
  refine lv_iconst (v := 0) hx hb dX7_isEntry_1 (by decide) ?_
  refine lv_aload_n hx hb dX7_isEntry_2 rfl (lv_at hl 0 rfl) ?_
  refine r_get cX inX7 hw hR.1.1 rfl 0 (by decide) wF_X7_7 rfl dX7_isEntry_3 ?_
  refine lv_iconst (v := 2) hx hb dX7_isEntry_6 (by decide) ?_
  refine r_iald (v := f 2) cX hw hR.1.2.1 2 rfl (by decide) (by decide) rfl dX7_isEntry_7 ?_
  refine lv_iconst (v := 1) hx hb dX7_isEntry_8 (by decide) ?_
  refine lv_isub hx hb dX7_isEntry_9 ?_
  refine r_Si cX hw [.int v, .int 0, .int ((f 2) - 1)] (c_X7_in l G v 0 ((f 2) - 1)) wM_X7_36 mw_X7_in ⟨Nat.le_of_ble_eq_true rfl, Nat.le_of_ble_eq_true rfl⟩ rfl rfl hl.1 (Nat.le_of_ble_eq_true rfl) dX7_isEntry_10 ⟨Nat.le_of_ble_eq_true rfl, Nat.le_of_ble_eq_true rfl⟩ (fun r M1 H locs hp hw => ?_)
  obtain ⟨hr1, hq⟩ := hp
  subst hr1
  rw [hq] at hw
  exact r_zret cX hr hlocks (z01n (if01 _)) hw ⟨rfl, rfl⟩ dX7_isEntry_13

set_option maxHeartbeats 4000000 in
set_option maxRecDepth 100000 in
theorem c_X7_slotOf (l : Launch) (G : gG) {M : HM} {b : Nat → Nat} {f sv sl fl T iF iN : Nat → Int32} {ct len at_ it : Int32} (hR0 : IsRf G M b f sv sl fl T iF iN ct len at_ it) (x : Int32) (h2 : ¬ f 2 = 0) : Ci l yX7_slotOf cX7_slotOf 2 .int (rd 0 0 0) G [.ref (b 0), .int x] M (fun r M' => r = jr (7 * x + 3) (f 2) ∧ M' = M) := by
  refine Ci.of (by decide) (Nat.le_of_ble_eq_true rfl) ?_
  intro p e s m args below meth c ls cX hw hlocks hr hl
  have hx := cX.1
  have hb := cX.2.1
  have hl : lv_has ls 2 [(0, .ref (b 0)), (1, .int x)] := hl
  have hR := hR0.rf
  refine lv_bipush (v := 7) hx hb dX7_slotOf_0 (by decide) ?_
  refine lv_iload_n hx hb dX7_slotOf_2 rfl (lv_at hl 1 rfl) ?_
  refine lv_imul hx hb dX7_slotOf_3 ?_
  refine lv_iconst (v := 3) hx hb dX7_slotOf_4 (by decide) ?_
  refine lv_iadd hx hb dX7_slotOf_5 ?_
  refine lv_aload_n hx hb dX7_slotOf_6 rfl (lv_at hl 0 rfl) ?_
  refine r_get cX inX7 hw hR.1.1 rfl 0 (by decide) wF_X7_7 rfl dX7_slotOf_7 ?_
  refine lv_iconst (v := 2) hx hb dX7_slotOf_10 (by decide) ?_
  refine r_iald (v := f 2) cX hw hR.1.2.1 2 rfl (by decide) (by decide) rfl dX7_slotOf_11 ?_
  refine r_irem hx hb dX7_slotOf_12 h2 ?_
  exact r_iret cX hr hlocks hw ⟨rfl, rfl⟩ dX7_slotOf_13

set_option maxHeartbeats 4000000 in
set_option maxRecDepth 100000 in
theorem c_X7_isLive (l : Launch) (G : gG) {M : HM} {b : Nat → Nat} {f sv sl fl T iF iN : Nat → Int32} {ct len at_ it : Int32} (hR0 : IsRf G M b f sv sl fl T iF iN ct len at_ it) (x : Int32) (k : Nat) (hxi : x = nI k) (hk : k < 8) : Ci l yX7_isLive cX7_isLive 3 .boolean (rd 0 0 0) G [.ref (b 0), .int x] M (fun r M' => r = (if lvE f k = true then 1 else 0) ∧ M' = M) := by
  refine Ci.of (by decide) (Nat.le_of_ble_eq_true rfl) ?_
  intro p e s m args below meth c ls cX hw hlocks hr hl
  have hx := cX.1
  have hb := cX.2.1
  have hl : lv_has ls 3 [(0, .ref (b 0)), (1, .int x)] := hl
  have hR := hR0.rf
  refine lv_aload_n hx hb dX7_isLive_0 rfl (lv_at hl 0 rfl) ?_
  refine r_get cX inX7 hw hR.1.1 rfl 0 (by decide) wF_X7_7 rfl dX7_isLive_1 ?_
  refine lv_iconst (v := 4) hx hb dX7_isLive_4 (by decide) ?_
  refine r_iald (v := f 4) cX hw hR.1.2.1 4 rfl (by decide) (by decide) rfl dX7_isLive_5 ?_
  refine lv_iconst (v := 1) hx hb dX7_isLive_6 (by decide) ?_
  refine lv_icmp_eq (tgt := 35) hx hb dX7_isLive_7 (by decide) (fun c7 => ?_) (fun c7 => ?_)
  · refine lv_iconst (v := 1) hx hb dX7_isLive_35 (by decide) ?_
    refine lv_goto (tgt := 40) hx hb dX7_isLive_36 (by decide) ?_
    refine lv_istore_n (lv' := [(2, .int 1), (0, .ref (b 0)), (1, .int x)]) hx hb dX7_isLive_40 rfl hl (by decide) rfl (fun ls hl => ?_)
    refine lv_aload_n hx hb dX7_isLive_41 rfl (lv_at hl 1 rfl) ?_
    refine r_get cX inX7 hw hR.1.1 rfl 0 (by decide) wF_X7_7 rfl dX7_isLive_42 ?_
    refine lv_bipush (v := 41) hx hb dX7_isLive_45 (by decide) ?_
    refine lv_iload_n hx hb dX7_isLive_47 rfl (lv_at hl 2 rfl) ?_
    refine lv_iadd hx hb dX7_isLive_48 ?_
    refine r_iald (v := f (41 + k)) cX hw hR.1.2.1 (41 + k) (by rw [hxi]; exact nI_add 41 k) (by omega) (by decide) rfl dX7_isLive_49 ?_
    refine lv_iconst (v := 1) hx hb dX7_isLive_50 (by decide) ?_
    refine lv_icmp_ne (tgt := 62) hx hb dX7_isLive_51 (by decide) (fun c51 => ?_) (fun c51 => ?_)
    · refine lv_iconst (v := 0) hx hb dX7_isLive_62 (by decide) ?_
      exact r_zret cX hr hlocks rfl hw ⟨by rw [show lvE f k = false from (by simp only [lvE, decide_eq_false_iff_not]; exact fun h => c51 h.1)]; rfl, rfl⟩ dX7_isLive_63
    · refine lv_iload_n hx hb dX7_isLive_54 rfl (lv_at hl 0 rfl) ?_
      refine lv_if_eq (tgt := 62) hx hb dX7_isLive_55 (by decide) (fun c55 => ?_) (fun c55 => ?_)
      · exact absurd c55 (by decide)
      · refine lv_iconst (v := 1) hx hb dX7_isLive_58 (by decide) ?_
        refine lv_goto (tgt := 63) hx hb dX7_isLive_59 (by decide) ?_
        exact r_zret cX hr hlocks rfl hw ⟨by rw [show lvE f k = true from (by simp only [lvE, decide_eq_true_eq]; exact ⟨c51, Or.inl c7⟩)]; rfl, rfl⟩ dX7_isLive_63
  · refine lv_aload_n hx hb dX7_isLive_10 rfl (lv_at hl 0 rfl) ?_
    refine r_get cX inX7 hw hR.1.1 rfl 0 (by decide) wF_X7_7 rfl dX7_isLive_11 ?_
    refine lv_iconst (v := 0) hx hb dX7_isLive_14 (by decide) ?_
    refine r_iald (v := f 0) cX hw hR.1.2.1 0 rfl (by decide) (by decide) rfl dX7_isLive_15 ?_
    refine lv_aload_n hx hb dX7_isLive_16 rfl (lv_at hl 0 rfl) ?_
    refine r_get cX inX7 hw hR.1.1 rfl 0 (by decide) wF_X7_7 rfl dX7_isLive_17 ?_
    refine lv_bipush (v := 57) hx hb dX7_isLive_20 (by decide) ?_
    refine lv_iload_n hx hb dX7_isLive_22 rfl (lv_at hl 1 rfl) ?_
    refine lv_iadd hx hb dX7_isLive_23 ?_
    refine r_iald (v := f (57 + k)) cX hw hR.1.2.1 (57 + k) (by rw [hxi]; exact nI_add 57 k) (by omega) (by decide) rfl dX7_isLive_24 ?_
    refine lv_isub hx hb dX7_isLive_25 ?_
    refine lv_aload_n hx hb dX7_isLive_26 rfl (lv_at hl 0 rfl) ?_
    refine r_get cX inX7 hw hR.1.1 rfl 0 (by decide) wF_X7_7 rfl dX7_isLive_27 ?_
    refine lv_iconst (v := 3) hx hb dX7_isLive_30 (by decide) ?_
    refine r_iald (v := f 3) cX hw hR.1.2.1 3 rfl (by decide) (by decide) rfl dX7_isLive_31 ?_
    refine lv_icmp_gt (tgt := 39) hx hb dX7_isLive_32 (by decide) (fun c32 => ?_) (fun c32 => ?_)
    · refine lv_iconst (v := 0) hx hb dX7_isLive_39 (by decide) ?_
      refine lv_istore_n (lv' := [(2, .int 0), (0, .ref (b 0)), (1, .int x)]) hx hb dX7_isLive_40 rfl hl (by decide) rfl (fun ls hl => ?_)
      refine lv_aload_n hx hb dX7_isLive_41 rfl (lv_at hl 1 rfl) ?_
      refine r_get cX inX7 hw hR.1.1 rfl 0 (by decide) wF_X7_7 rfl dX7_isLive_42 ?_
      refine lv_bipush (v := 41) hx hb dX7_isLive_45 (by decide) ?_
      refine lv_iload_n hx hb dX7_isLive_47 rfl (lv_at hl 2 rfl) ?_
      refine lv_iadd hx hb dX7_isLive_48 ?_
      refine r_iald (v := f (41 + k)) cX hw hR.1.2.1 (41 + k) (by rw [hxi]; exact nI_add 41 k) (by omega) (by decide) rfl dX7_isLive_49 ?_
      refine lv_iconst (v := 1) hx hb dX7_isLive_50 (by decide) ?_
      refine lv_icmp_ne (tgt := 62) hx hb dX7_isLive_51 (by decide) (fun c51 => ?_) (fun c51 => ?_)
      · refine lv_iconst (v := 0) hx hb dX7_isLive_62 (by decide) ?_
        exact r_zret cX hr hlocks rfl hw ⟨by rw [show lvE f k = false from (by simp only [lvE, decide_eq_false_iff_not]; exact fun h => c51 h.1)]; rfl, rfl⟩ dX7_isLive_63
      · refine lv_iload_n hx hb dX7_isLive_54 rfl (lv_at hl 0 rfl) ?_
        refine lv_if_eq (tgt := 62) hx hb dX7_isLive_55 (by decide) (fun c55 => ?_) (fun c55 => ?_)
        · refine lv_iconst (v := 0) hx hb dX7_isLive_62 (by decide) ?_
          exact r_zret cX hr hlocks rfl hw ⟨by rw [show lvE f k = false from (by simp only [lvE, decide_eq_false_iff_not]; exact fun h => h.2.elim c7 (fun h3 => Int32.not_le.mpr c32 h3))]; rfl, rfl⟩ dX7_isLive_63
        · exact absurd rfl c55
    · refine lv_iconst (v := 1) hx hb dX7_isLive_35 (by decide) ?_
      refine lv_goto (tgt := 40) hx hb dX7_isLive_36 (by decide) ?_
      refine lv_istore_n (lv' := [(2, .int 1), (0, .ref (b 0)), (1, .int x)]) hx hb dX7_isLive_40 rfl hl (by decide) rfl (fun ls hl => ?_)
      refine lv_aload_n hx hb dX7_isLive_41 rfl (lv_at hl 1 rfl) ?_
      refine r_get cX inX7 hw hR.1.1 rfl 0 (by decide) wF_X7_7 rfl dX7_isLive_42 ?_
      refine lv_bipush (v := 41) hx hb dX7_isLive_45 (by decide) ?_
      refine lv_iload_n hx hb dX7_isLive_47 rfl (lv_at hl 2 rfl) ?_
      refine lv_iadd hx hb dX7_isLive_48 ?_
      refine r_iald (v := f (41 + k)) cX hw hR.1.2.1 (41 + k) (by rw [hxi]; exact nI_add 41 k) (by omega) (by decide) rfl dX7_isLive_49 ?_
      refine lv_iconst (v := 1) hx hb dX7_isLive_50 (by decide) ?_
      refine lv_icmp_ne (tgt := 62) hx hb dX7_isLive_51 (by decide) (fun c51 => ?_) (fun c51 => ?_)
      · refine lv_iconst (v := 0) hx hb dX7_isLive_62 (by decide) ?_
        exact r_zret cX hr hlocks rfl hw ⟨by rw [show lvE f k = false from (by simp only [lvE, decide_eq_false_iff_not]; exact fun h => c51 h.1)]; rfl, rfl⟩ dX7_isLive_63
      · refine lv_iload_n hx hb dX7_isLive_54 rfl (lv_at hl 0 rfl) ?_
        refine lv_if_eq (tgt := 62) hx hb dX7_isLive_55 (by decide) (fun c55 => ?_) (fun c55 => ?_)
        · exact absurd c55 (by decide)
        · refine lv_iconst (v := 1) hx hb dX7_isLive_58 (by decide) ?_
          refine lv_goto (tgt := 63) hx hb dX7_isLive_59 (by decide) ?_
          exact r_zret cX hr hlocks rfl hw ⟨by rw [show lvE f k = true from (by simp only [lvE, decide_eq_true_eq]; exact ⟨c51, Or.inr (Int32.not_lt.mp c32)⟩)]; rfl, rfl⟩ dX7_isLive_63

set_option maxHeartbeats 4000000 in
set_option maxRecDepth 100000 in
theorem c_X7_metricOf (l : Launch) (G : gG) {M : HM} {b : Nat → Nat} {f sv sl fl T iF iN : Nat → Int32} {ct len at_ it : Int32} (hR0 : IsRf G M b f sv sl fl T iF iN ct len at_ it) (x : Int32) (k : Nat) (hxi : x = nI k) (hk : k < 4) : Ci l yX7_metricOf cX7_metricOf 3 .int (rd 0 0 0) G [.ref (b 0), .int x] M (fun r M' => r = mt f k ∧ M' = M) := by
  refine Ci.of (by decide) (Nat.le_of_ble_eq_true rfl) ?_
  intro p e s m args below meth c ls cX hw hlocks hr hl
  have hx := cX.1
  have hb := cX.2.1
  have hl : lv_has ls 3 [(0, .ref (b 0)), (1, .int x)] := hl
  have hR := hR0.rf
  refine lv_aload_n hx hb dX7_metricOf_0 rfl (lv_at hl 0 rfl) ?_
  refine r_get cX inX7 hw hR.1.1 rfl 0 (by decide) wF_X7_7 rfl dX7_metricOf_1 ?_
  refine lv_bipush (v := 21) hx hb dX7_metricOf_4 (by decide) ?_
  refine lv_iload_n hx hb dX7_metricOf_6 rfl (lv_at hl 1 rfl) ?_
  refine lv_iadd hx hb dX7_metricOf_7 ?_
  refine r_iald (v := f (21 + k)) cX hw hR.1.2.1 (21 + k) (by rw [hxi]; exact nI_add 21 k) (by omega) (by decide) rfl dX7_metricOf_8 ?_
  refine lv_bipush (v := 64) hx hb dX7_metricOf_9 (by decide) ?_
  refine lv_idiv hx hb dX7_metricOf_11 (by decide) ?_
  refine lv_istore_n (lv' := [(2, .int ((f (21 + k)) / 64)), (0, .ref (b 0)), (1, .int x)]) hx hb dX7_metricOf_12 rfl hl (by decide) rfl (fun ls hl => ?_)
  refine lv_iload_n hx hb dX7_metricOf_13 rfl (lv_at hl 0 rfl) ?_
  refine lv_bipush (v := 7) hx hb dX7_metricOf_14 (by decide) ?_
  refine lv_icmp_le (tgt := 24) hx hb dX7_metricOf_16 (by decide) (fun c16 => ?_) (fun c16 => ?_)
  · refine lv_iload_n hx hb dX7_metricOf_24 rfl (lv_at hl 0 rfl) ?_
    refine lv_istore_n (lv' := [(2, .int ((f (21 + k)) / 64)), (0, .ref (b 0)), (1, .int x)]) hx hb dX7_metricOf_25 rfl hl (by decide) rfl (fun ls hl => ?_)
    refine lv_iload_n hx hb dX7_metricOf_26 rfl (lv_at hl 0 rfl) ?_
    refine lv_aload_n hx hb dX7_metricOf_27 rfl (lv_at hl 1 rfl) ?_
    refine r_get cX inX7 hw hR.1.1 rfl 0 (by decide) wF_X7_7 rfl dX7_metricOf_28 ?_
    refine lv_bipush (v := 17) hx hb dX7_metricOf_31 (by decide) ?_
    refine lv_iload_n hx hb dX7_metricOf_33 rfl (lv_at hl 2 rfl) ?_
    refine lv_iadd hx hb dX7_metricOf_34 ?_
    refine r_iald (v := f (17 + k)) cX hw hR.1.2.1 (17 + k) (by rw [hxi]; exact nI_add 17 k) (by omega) (by decide) rfl dX7_metricOf_35 ?_
    refine lv_icmp_le (tgt := 43) hx hb dX7_metricOf_36 (by decide) (fun c36 => ?_) (fun c36 => ?_)
    · refine lv_aload_n hx hb dX7_metricOf_43 rfl (lv_at hl 1 rfl) ?_
      refine r_get cX inX7 hw hR.1.1 rfl 0 (by decide) wF_X7_7 rfl dX7_metricOf_44 ?_
      refine lv_bipush (v := 17) hx hb dX7_metricOf_47 (by decide) ?_
      refine lv_iload_n hx hb dX7_metricOf_49 rfl (lv_at hl 2 rfl) ?_
      refine lv_iadd hx hb dX7_metricOf_50 ?_
      refine r_iald (v := f (17 + k)) cX hw hR.1.2.1 (17 + k) (by rw [hxi]; exact nI_add 17 k) (by omega) (by decide) rfl dX7_metricOf_51 ?_
      exact r_iret cX hr hlocks hw ⟨by unfold mt cg; rw [if_neg (Int32.not_lt.mpr c16)]; exact (cg_le c36).symm, rfl⟩ dX7_metricOf_52
    · refine lv_iload_n hx hb dX7_metricOf_39 rfl (lv_at hl 0 rfl) ?_
      refine lv_goto (tgt := 52) hx hb dX7_metricOf_40 (by decide) ?_
      exact r_iret cX hr hlocks hw ⟨by unfold mt cg; rw [if_neg (Int32.not_lt.mpr c16)]; exact (cg_gt c36).symm, rfl⟩ dX7_metricOf_52
  · refine lv_bipush (v := 7) hx hb dX7_metricOf_19 (by decide) ?_
    refine lv_goto (tgt := 25) hx hb dX7_metricOf_21 (by decide) ?_
    refine lv_istore_n (lv' := [(2, .int 7), (0, .ref (b 0)), (1, .int x)]) hx hb dX7_metricOf_25 rfl hl (by decide) rfl (fun ls hl => ?_)
    refine lv_iload_n hx hb dX7_metricOf_26 rfl (lv_at hl 0 rfl) ?_
    refine lv_aload_n hx hb dX7_metricOf_27 rfl (lv_at hl 1 rfl) ?_
    refine r_get cX inX7 hw hR.1.1 rfl 0 (by decide) wF_X7_7 rfl dX7_metricOf_28 ?_
    refine lv_bipush (v := 17) hx hb dX7_metricOf_31 (by decide) ?_
    refine lv_iload_n hx hb dX7_metricOf_33 rfl (lv_at hl 2 rfl) ?_
    refine lv_iadd hx hb dX7_metricOf_34 ?_
    refine r_iald (v := f (17 + k)) cX hw hR.1.2.1 (17 + k) (by rw [hxi]; exact nI_add 17 k) (by omega) (by decide) rfl dX7_metricOf_35 ?_
    refine lv_icmp_le (tgt := 43) hx hb dX7_metricOf_36 (by decide) (fun c36 => ?_) (fun c36 => ?_)
    · refine lv_aload_n hx hb dX7_metricOf_43 rfl (lv_at hl 1 rfl) ?_
      refine r_get cX inX7 hw hR.1.1 rfl 0 (by decide) wF_X7_7 rfl dX7_metricOf_44 ?_
      refine lv_bipush (v := 17) hx hb dX7_metricOf_47 (by decide) ?_
      refine lv_iload_n hx hb dX7_metricOf_49 rfl (lv_at hl 2 rfl) ?_
      refine lv_iadd hx hb dX7_metricOf_50 ?_
      refine r_iald (v := f (17 + k)) cX hw hR.1.2.1 (17 + k) (by rw [hxi]; exact nI_add 17 k) (by omega) (by decide) rfl dX7_metricOf_51 ?_
      exact r_iret cX hr hlocks hw ⟨by unfold mt cg; rw [if_pos (Int32.not_le.mp c16)]; exact (cg_le c36).symm, rfl⟩ dX7_metricOf_52
    · refine lv_iload_n hx hb dX7_metricOf_39 rfl (lv_at hl 0 rfl) ?_
      refine lv_goto (tgt := 52) hx hb dX7_metricOf_40 (by decide) ?_
      exact r_iret cX hr hlocks hw ⟨by unfold mt cg; rw [if_pos (Int32.not_le.mp c16)]; exact (cg_gt c36).symm, rfl⟩ dX7_metricOf_52

set_option maxHeartbeats 4000000 in
set_option maxRecDepth 100000 in
theorem c_X7_leastLoaded (l : Launch) (G : gG) {M : HM} {b : Nat → Nat} {f sv sl fl T iF iN : Nat → Int32} {ct len at_ it : Int32} (hR0 : IsRf G M b f sv sl fl T iF iN ct len at_ it) {B : Nat} (hv : Inv B f) (x : Int32) (e0 : Nat) (hxi : x = nI e0) (he0 : e0 < 8) : Ci l yX7_leastLoaded cX7_leastLoaded 4 .int (rd 1 0 0) G [.ref (b 0), .int x] M (fun r M' => r = llF f (f (49 + e0)) ∧ M' = M) := by
  obtain ⟨e1, e2, e3⟩ := hv.P
  refine Ci.of (by decide) (Nat.le_of_ble_eq_true rfl) ?_
  intro p e s m args below meth c ls cX hw hlocks hr hl
  have hx := cX.1
  have hb := cX.2.1
  have hl : lv_has ls 4 [(0, .ref (b 0)), (1, .int x)] := hl
  have hR := hR0.rf
  refine lv_iconst (v := 0) hx hb dX7_leastLoaded_0 (by decide) ?_
  refine lv_istore_n (lv' := [(2, .int 0), (0, .ref (b 0)), (1, .int x)]) hx hb dX7_leastLoaded_1 rfl hl (by decide) rfl (fun ls hl => ?_)
  refine lv_iconst (v := 1) hx hb dX7_leastLoaded_2 (by decide) ?_
  refine lv_istore_n (lv' := [(3, .int 1), (2, .int 0), (0, .ref (b 0)), (1, .int x)]) hx hb dX7_leastLoaded_3 rfl hl (by decide) rfl (fun ls hl => ?_)
  have lp4 : ∀ (nn i : Nat), i ≤ nP f - 1 → nP f - 1 < i + nn → ∀ (H : Heap) (locs : List Loc) (ls : Array Slot), Wd G (dm M s.heap.size) s.heap M H locs → lv_has ls 4 [(3, .int (nI (i + 1))), (2, .int (nI (bs f i))), (1, .int x), (0, .ref (b 0))] → W p l e (rd 1 0 0) s m args below meth c H locs 0 0 (MQ below (QI G M s.heap.size (fun r M' => r = llF f (f (49 + e0)) ∧ M' = M)) args s 0 0 (dm M s.heap.size)) (F0 m 4 ls []) := by
    intro nn
    induction nn with
    | zero =>
      intro i h1 h2
      exact absurd h2 (by omega)
    | succ nn ih =>
      intro i hi hin H locs ls hw hl
      refine lv_iload_n hx hb dX7_leastLoaded_4 rfl (lv_at hl 0 rfl) ?_
      refine lv_aload_n hx hb dX7_leastLoaded_5 rfl (lv_at hl 3 rfl) ?_
      refine r_get cX inX7 hw hR.1.1 rfl 0 (by decide) wF_X7_7 rfl dX7_leastLoaded_6 ?_
      refine lv_iconst (v := 1) hx hb dX7_leastLoaded_9 (by decide) ?_
      refine r_iald (v := f 1) cX hw hR.1.2.1 1 rfl (by decide) (by decide) rfl dX7_leastLoaded_10 ?_
      refine lv_icmp_ge (tgt := 39) hx hb dX7_leastLoaded_11 (by decide) (fun c11 => ?_) (fun c11 => ?_)
      · obtain rfl : i = nP f - 1 := Nat.le_antisymm hi (by have := ix_ge (a := i + 1) (b := nP f) (by omega) (by omega) (by rw [← e3]; exact c11); omega)
        refine lv_aload_n hx hb dX7_leastLoaded_39 rfl (lv_at hl 3 rfl) ?_
        refine r_get cX inX7 hw hR.1.1 rfl 0 (by decide) wF_X7_7 rfl dX7_leastLoaded_40 ?_
        refine lv_bipush (v := 49) hx hb dX7_leastLoaded_43 (by decide) ?_
        refine lv_iload_n hx hb dX7_leastLoaded_45 rfl (lv_at hl 2 rfl) ?_
        refine lv_iadd hx hb dX7_leastLoaded_46 ?_
        refine r_iald (v := f (49 + e0)) cX hw hR.1.2.1 (49 + e0) (by rw [hxi]; exact nI_add 49 e0) (by omega) (by decide) rfl dX7_leastLoaded_47 ?_
        refine lv_istore_n (lv' := [(3, .int (f (49 + e0))), (2, .int (nI (bs f (nP f - 1)))), (1, .int x), (0, .ref (b 0))]) hx hb dX7_leastLoaded_48 rfl hl (by decide) rfl (fun ls hl => ?_)
        refine lv_iload_n hx hb dX7_leastLoaded_49 rfl (lv_at hl 0 rfl) ?_
        refine lv_bipush (v := (-9)) hx hb dX7_leastLoaded_50 (by decide) ?_
        refine lv_icmp_eq (tgt := 72) hx hb dX7_leastLoaded_52 (by decide) (fun c52 => ?_) (fun c52 => ?_)
        · refine lv_iload_n hx hb dX7_leastLoaded_72 rfl (lv_at hl 1 rfl) ?_
          exact r_iret cX hr hlocks hw ⟨by unfold llF; rw [if_neg (fun h => h.1 c52)], rfl⟩ dX7_leastLoaded_73
        · refine lv_aload_n hx hb dX7_leastLoaded_55 rfl (lv_at hl 3 rfl) ?_
          refine lv_iload_n hx hb dX7_leastLoaded_56 rfl (lv_at hl 0 rfl) ?_
          obtain ⟨k, hk, hhk⟩ := (hv.2.2.2.2.2.2.2.2 e0 he0).2.2.1.resolve_left c52
          refine r_Vi cX hw hR.1.1 rfl [.int (f (49 + e0))] (c_X7_metricOf l G hR.1 (f (49 + e0)) k hhk (by omega)) wM_X7_72 mw_X7_metricOf ⟨Nat.le_of_ble_eq_true rfl, Nat.le_of_ble_eq_true rfl⟩ rfl rfl hl.1 (Nat.le_of_ble_eq_true rfl) dX7_leastLoaded_57 ⟨Nat.le_of_ble_eq_true rfl, Nat.le_of_ble_eq_true rfl⟩ (fun r M1 H locs hp hw => ?_)
          obtain ⟨hr1, hq⟩ := hp
          subst hr1
          rw [hq] at hw
          refine lv_aload_n hx hb dX7_leastLoaded_60 rfl (lv_at hl 3 rfl) ?_
          refine lv_iload_n hx hb dX7_leastLoaded_61 rfl (lv_at hl 1 rfl) ?_
          refine r_Vi cX hw hR.1.1 rfl [.int (nI (bs f (nP f - 1)))] (c_X7_metricOf l G hR.1 (nI (bs f (nP f - 1))) (bs f (nP f - 1)) rfl (by have := bs_le f (nP f - 1); omega)) wM_X7_72 mw_X7_metricOf ⟨Nat.le_of_ble_eq_true rfl, Nat.le_of_ble_eq_true rfl⟩ rfl rfl hl.1 (Nat.le_of_ble_eq_true rfl) dX7_leastLoaded_62 ⟨Nat.le_of_ble_eq_true rfl, Nat.le_of_ble_eq_true rfl⟩ (fun r M1 H locs hp hw => ?_)
          obtain ⟨hr1, hq⟩ := hp
          subst hr1
          rw [hq] at hw
          refine lv_icmp_ne (tgt := 72) hx hb dX7_leastLoaded_65 (by decide) (fun c65 => ?_) (fun c65 => ?_)
          · refine lv_iload_n hx hb dX7_leastLoaded_72 rfl (lv_at hl 1 rfl) ?_
            exact r_iret cX hr hlocks hw ⟨by unfold llF; rw [if_neg (fun h => c65 (by have h2 := h.2; rw [(show (f (49 + e0)).toNatClampNeg = k by rw [hhk]; exact nI_clamp (by omega))] at h2; exact h2))], rfl⟩ dX7_leastLoaded_73
          · refine lv_iload_n hx hb dX7_leastLoaded_68 rfl (lv_at hl 0 rfl) ?_
            refine lv_goto (tgt := 73) hx hb dX7_leastLoaded_69 (by decide) ?_
            exact r_iret cX hr hlocks hw ⟨by unfold llF; rw [if_pos ⟨c52, by rw [(show (f (49 + e0)).toNatClampNeg = k by rw [hhk]; exact nI_clamp (by omega))]; exact c65⟩], rfl⟩ dX7_leastLoaded_73
      · have hlt : i + 1 < nP f := ix_lt (by omega) (by rw [← e3]; exact c11)
        refine lv_aload_n hx hb dX7_leastLoaded_14 rfl (lv_at hl 3 rfl) ?_
        refine lv_iload_n hx hb dX7_leastLoaded_15 rfl (lv_at hl 0 rfl) ?_
        refine r_Vi cX hw hR.1.1 rfl [.int (nI (i + 1))] (c_X7_metricOf l G hR.1 (nI (i + 1)) (i + 1) rfl (by omega)) wM_X7_72 mw_X7_metricOf ⟨Nat.le_of_ble_eq_true rfl, Nat.le_of_ble_eq_true rfl⟩ rfl rfl hl.1 (Nat.le_of_ble_eq_true rfl) dX7_leastLoaded_16 ⟨Nat.le_of_ble_eq_true rfl, Nat.le_of_ble_eq_true rfl⟩ (fun r M1 H locs hp hw => ?_)
        obtain ⟨hr1, hq⟩ := hp
        subst hr1
        rw [hq] at hw
        refine lv_aload_n hx hb dX7_leastLoaded_19 rfl (lv_at hl 3 rfl) ?_
        refine lv_iload_n hx hb dX7_leastLoaded_20 rfl (lv_at hl 1 rfl) ?_
        refine r_Vi cX hw hR.1.1 rfl [.int (nI (bs f i))] (c_X7_metricOf l G hR.1 (nI (bs f i)) (bs f i) rfl (by have := bs_le f i; omega)) wM_X7_72 mw_X7_metricOf ⟨Nat.le_of_ble_eq_true rfl, Nat.le_of_ble_eq_true rfl⟩ rfl rfl hl.1 (Nat.le_of_ble_eq_true rfl) dX7_leastLoaded_21 ⟨Nat.le_of_ble_eq_true rfl, Nat.le_of_ble_eq_true rfl⟩ (fun r M1 H locs hp hw => ?_)
        obtain ⟨hr1, hq⟩ := hp
        subst hr1
        rw [hq] at hw
        refine lv_icmp_ge (tgt := 31) hx hb dX7_leastLoaded_24 (by decide) (fun c24 => ?_) (fun c24 => ?_)
        · refine lv_iload_n hx hb dX7_leastLoaded_31 rfl (lv_at hl 1 rfl) ?_
          refine lv_istore_n (lv' := [(2, .int (nI (bs f i))), (3, .int (nI (i + 1))), (1, .int x), (0, .ref (b 0))]) hx hb dX7_leastLoaded_32 rfl hl (by decide) rfl (fun ls hl => ?_)
          have hbs : bs f (i + 1) = bs f i := if_neg (Int32.not_lt.mpr c24)
          have hl : lv_has ls 4 [(2, .int (nI (bs f (i + 1)))), (3, .int (nI (i + 1))), (1, .int x), (0, .ref (b 0))] := by rw [hbs]; exact hl
          refine lv_iinc (v := (nI ((i + 1) + 1))) (lv' := [(3, .int (nI ((i + 1) + 1))), (2, .int (nI (bs f (i + 1)))), (1, .int x), (0, .ref (b 0))]) hx hb dX7_leastLoaded_33 hl (k := 1) rfl (nI_1 (i + 1)) (by decide) rfl (fun ls hl => ?_)
          refine lv_goto (tgt := 4) hx hb dX7_leastLoaded_36 (by decide) ?_
          exact ih (i + 1) (by omega) (by omega) _ _ _ hw (lv_sub hl [0, 1, 2, 3] rfl)
        · refine lv_iload_n hx hb dX7_leastLoaded_27 rfl (lv_at hl 0 rfl) ?_
          refine lv_goto (tgt := 32) hx hb dX7_leastLoaded_28 (by decide) ?_
          refine lv_istore_n (lv' := [(2, .int (nI (i + 1))), (3, .int (nI (i + 1))), (1, .int x), (0, .ref (b 0))]) hx hb dX7_leastLoaded_32 rfl hl (by decide) rfl (fun ls hl => ?_)
          have hbs : bs f (i + 1) = i + 1 := if_pos (Int32.not_le.mp c24)
          have hl : lv_has ls 4 [(2, .int (nI (bs f (i + 1)))), (3, .int (nI (i + 1))), (1, .int x), (0, .ref (b 0))] := by rw [hbs]; exact hl
          refine lv_iinc (v := (nI ((i + 1) + 1))) (lv' := [(3, .int (nI ((i + 1) + 1))), (2, .int (nI (bs f (i + 1)))), (1, .int x), (0, .ref (b 0))]) hx hb dX7_leastLoaded_33 hl (k := 1) rfl (nI_1 (i + 1)) (by decide) rfl (fun ls hl => ?_)
          refine lv_goto (tgt := 4) hx hb dX7_leastLoaded_36 (by decide) ?_
          exact ih (i + 1) (by omega) (by omega) _ _ _ hw (lv_sub hl [0, 1, 2, 3] rfl)
  exact lp4 (nP f - 1 + 1) 0 (by omega) (by omega) _ _ _ hw (lv_sub hl [0, 1, 3, 2] rfl)

set_option maxHeartbeats 4000000 in
set_option maxRecDepth 100000 in
theorem c_X7_nextGenerator (l : Launch) (G : gG) {M : HM} {b : Nat → Nat} {f sv sl fl T iF iN : Nat → Int32} {ct len at_ it : Int32} (hR0 : IsRf G M b f sv sl fl T iF iN ct len at_ it) (h7 : ∃ g, g < 2 ^ 31 ∧ f 7 = nI g) : Ci l yX7_nextGenerator cX7_nextGenerator 1 .int (rd 0 0 0) G [.ref (b 0)] M (fun r M' => r = nx (f 7) ∧ M' = M) := by
  refine Ci.of (by decide) (Nat.le_of_ble_eq_true rfl) ?_
  intro p e s m args below meth c ls cX hw hlocks hr hl
  have hx := cX.1
  have hb := cX.2.1
  have hl : lv_has ls 1 [(0, .ref (b 0))] := hl
  have hR := hR0.rf
  refine lv_aload_n hx hb dX7_nextGenerator_0 rfl (lv_at hl 0 rfl) ?_
  refine r_get cX inX7 hw hR.1.1 rfl 0 (by decide) wF_X7_7 rfl dX7_nextGenerator_1 ?_
  refine lv_bipush (v := 7) hx hb dX7_nextGenerator_4 (by decide) ?_
  refine r_iald (v := f 7) cX hw hR.1.2.1 7 rfl (by decide) (by decide) rfl dX7_nextGenerator_6 ?_
  refine lv_i2l hx hb dX7_nextGenerator_7 rfl ?_
  refine lv_ldc2 (v := 1103515245) hx hb cX.2.2.2.1 (cX.2.2.2.2.ts _ wK_X7_75) dX7_nextGenerator_8 ?_
  refine lv_lmul hx hb dX7_nextGenerator_11 ?_
  refine lv_ldc2 (v := 12345) hx hb cX.2.2.2.1 (cX.2.2.2.2.ts _ wK_X7_77) dX7_nextGenerator_12 ?_
  refine lv_ladd hx hb dX7_nextGenerator_15 ?_
  refine lv_ldc2 (v := 2147483648) hx hb cX.2.2.2.1 (cX.2.2.2.2.ts _ wK_X7_79) dX7_nextGenerator_16 ?_
  refine lv_lrem hx hb dX7_nextGenerator_19 (by decide) ?_
  refine lv_l2i hx hb dX7_nextGenerator_20 rfl ?_
  exact r_iret cX hr hlocks hw ⟨by obtain ⟨g, g1, g2⟩ := h7; rw [g2]; exact nx_ref g1, rfl⟩ dX7_nextGenerator_21

set_option maxHeartbeats 4000000 in
set_option maxRecDepth 100000 in
theorem c_X7_isByFlowlets (l : Launch) (G : gG) {M : HM} {b : Nat → Nat} {f sv sl fl T iF iN : Nat → Int32} {ct len at_ it : Int32} (hR0 : IsRf G M b f sv sl fl T iF iN ct len at_ it) : Ci l yX7_isByFlowlets cX7_isByFlowlets 1 .boolean (rd 0 0 0) G [.ref (b 0)] M (fun r M' => r = (if f 5 = 1 ∨ f 5 = 3 then 1 else 0) ∧ M' = M) := by
  refine Ci.of (by decide) (Nat.le_of_ble_eq_true rfl) ?_
  intro p e s m args below meth c ls cX hw hlocks hr hl
  have hx := cX.1
  have hb := cX.2.1
  have hl : lv_has ls 1 [(0, .ref (b 0))] := hl
  have hR := hR0.rf
  refine lv_aload_n hx hb dX7_isByFlowlets_0 rfl (lv_at hl 0 rfl) ?_
  refine r_get cX inX7 hw hR.1.1 rfl 0 (by decide) wF_X7_7 rfl dX7_isByFlowlets_1 ?_
  refine lv_iconst (v := 5) hx hb dX7_isByFlowlets_4 (by decide) ?_
  refine r_iald (v := f 5) cX hw hR.1.2.1 5 rfl (by decide) (by decide) rfl dX7_isByFlowlets_5 ?_
  refine lv_iconst (v := 1) hx hb dX7_isByFlowlets_6 (by decide) ?_
  refine lv_icmp_eq (tgt := 20) hx hb dX7_isByFlowlets_7 (by decide) (fun c7 => ?_) (fun c7 => ?_)
  · refine lv_iconst (v := 1) hx hb dX7_isByFlowlets_20 (by decide) ?_
    refine lv_goto (tgt := 25) hx hb dX7_isByFlowlets_21 (by decide) ?_
    exact r_zret cX hr hlocks rfl hw ⟨(if_pos (Or.inl c7)).symm, rfl⟩ dX7_isByFlowlets_25
  · refine lv_aload_n hx hb dX7_isByFlowlets_10 rfl (lv_at hl 0 rfl) ?_
    refine r_get cX inX7 hw hR.1.1 rfl 0 (by decide) wF_X7_7 rfl dX7_isByFlowlets_11 ?_
    refine lv_iconst (v := 5) hx hb dX7_isByFlowlets_14 (by decide) ?_
    refine r_iald (v := f 5) cX hw hR.1.2.1 5 rfl (by decide) (by decide) rfl dX7_isByFlowlets_15 ?_
    refine lv_iconst (v := 3) hx hb dX7_isByFlowlets_16 (by decide) ?_
    refine lv_icmp_ne (tgt := 24) hx hb dX7_isByFlowlets_17 (by decide) (fun c17 => ?_) (fun c17 => ?_)
    · refine lv_iconst (v := 0) hx hb dX7_isByFlowlets_24 (by decide) ?_
      exact r_zret cX hr hlocks rfl hw ⟨(if_neg (fun h => h.elim c7 c17)).symm, rfl⟩ dX7_isByFlowlets_25
    · refine lv_iconst (v := 1) hx hb dX7_isByFlowlets_20 (by decide) ?_
      refine lv_goto (tgt := 25) hx hb dX7_isByFlowlets_21 (by decide) ?_
      exact r_zret cX hr hlocks rfl hw ⟨(if_pos (Or.inr c17)).symm, rfl⟩ dX7_isByFlowlets_25

set_option maxHeartbeats 4000000 in
set_option maxRecDepth 100000 in
theorem c_X7_choose (l : Launch) (G : gG) {M : HM} {b : Nat → Nat} {f sv sl fl T iF iN : Nat → Int32} {ct len at_ it : Int32} (hR0 : IsRf G M b f sv sl fl T iF iN ct len at_ it) {B : Nat} (hv : Inv B f) (k : Nat) (hk : k < 16) : Ci l yX7_choose cX7_choose 3 .int (rd 2 0 0) G [.ref (b 0), .int (nI k)] M (fun r M' => r = chF f k ∧ M' = M) := by
  refine Ci.of (by decide) (Nat.le_of_ble_eq_true rfl) ?_
  intro p e s m args below meth c ls cX hw hlocks hr hl
  have hx := cX.1
  have hb := cX.2.1
  have hl : lv_has ls 3 [(0, .ref (b 0)), (1, .int (nI k))] := hl
  have hR := hR0.rf
  refine lv_aload_n hx hb dX7_choose_0 rfl (lv_at hl 0 rfl) ?_
  refine r_get cX inX7 hw hR.1.1 rfl 0 (by decide) wF_X7_7 rfl dX7_choose_1 ?_
  refine lv_iconst (v := 5) hx hb dX7_choose_4 (by decide) ?_
  refine r_iald (v := f 5) cX hw hR.1.2.1 5 rfl (by decide) (by decide) rfl dX7_choose_5 ?_
  refine lv_if_ne (tgt := 18) hx hb dX7_choose_6 (by decide) (fun c6 => ?_) (fun c6 => ?_)
  · refine lv_aload_n hx hb dX7_choose_18 rfl (lv_at hl 0 rfl) ?_
    refine r_get cX inX7 hw hR.1.1 rfl 0 (by decide) wF_X7_7 rfl dX7_choose_19 ?_
    refine lv_iconst (v := 5) hx hb dX7_choose_22 (by decide) ?_
    refine r_iald (v := f 5) cX hw hR.1.2.1 5 rfl (by decide) (by decide) rfl dX7_choose_23 ?_
    refine lv_iconst (v := 2) hx hb dX7_choose_24 (by decide) ?_
    refine lv_icmp_ne (tgt := 43) hx hb dX7_choose_25 (by decide) (fun c25 => ?_) (fun c25 => ?_)
    · refine lv_aload_n hx hb dX7_choose_43 rfl (lv_at hl 0 rfl) ?_
      refine lv_iload_n hx hb dX7_choose_44 rfl (lv_at hl 1 rfl) ?_
      refine r_Vi cX hw hR.1.1 rfl [.int (nI k)] (c_X7_slotOf l G hR.1 (nI k) hv.nz2) wM_X7_47 mw_X7_slotOf ⟨Nat.le_of_ble_eq_true rfl, Nat.le_of_ble_eq_true rfl⟩ rfl rfl hl.1 (Nat.le_of_ble_eq_true rfl) dX7_choose_45 ⟨Nat.le_of_ble_eq_true rfl, Nat.le_of_ble_eq_true rfl⟩ (fun r M1 H locs hp hw => ?_)
      obtain ⟨hr1, hq⟩ := hp
      subst hr1
      rw [hq] at hw
      refine lv_istore_n (lv' := [(2, .int (jr (7 * (nI k) + 3) (f 2))), (0, .ref (b 0)), (1, .int (nI k))]) hx hb dX7_choose_48 rfl hl (by decide) rfl (fun ls hl => ?_)
      refine lv_aload_n hx hb dX7_choose_49 rfl (lv_at hl 1 rfl) ?_
      refine lv_iload_n hx hb dX7_choose_50 rfl (lv_at hl 0 rfl) ?_
      refine r_Vi cX hw hR.1.1 rfl [.int (jr (7 * (nI k) + 3) (f 2))] (c_X7_isLive l G hR.1 _ (eN f k) (eN_eq hv k hk) (eN_lt hv k).2) wM_X7_81 mw_X7_isLive ⟨Nat.le_of_ble_eq_true rfl, Nat.le_of_ble_eq_true rfl⟩ rfl rfl hl.1 (Nat.le_of_ble_eq_true rfl) dX7_choose_51 ⟨Nat.le_of_ble_eq_true rfl, Nat.le_of_ble_eq_true rfl⟩ (fun r M1 H locs hp hw => ?_)
      obtain ⟨hr1, hq⟩ := hp
      subst hr1
      rw [hq] at hw
      refine lv_if_eq (tgt := 67) hx hb dX7_choose_54 (by decide) (fun c54 => ?_) (fun c54 => ?_)
      · refine lv_aload_n hx hb dX7_choose_67 rfl (lv_at hl 1 rfl) ?_
        refine r_get cX inX7 hw hR.1.1 rfl 0 (by decide) wF_X7_7 rfl dX7_choose_68 ?_
        refine lv_iconst (v := 5) hx hb dX7_choose_71 (by decide) ?_
        refine r_iald (v := f 5) cX hw hR.1.2.1 5 rfl (by decide) (by decide) rfl dX7_choose_72 ?_
        refine lv_iconst (v := 1) hx hb dX7_choose_73 (by decide) ?_
        refine lv_icmp_ne (tgt := 85) hx hb dX7_choose_74 (by decide) (fun c74 => ?_) (fun c74 => ?_)
        · refine lv_aload_n hx hb dX7_choose_85 rfl (lv_at hl 1 rfl) ?_
          refine r_Vi cX hw hR.1.1 rfl [] (c_X7_nextGenerator l G hR.1 hv.2.2.2.2.1) wM_X7_87 mw_X7_nextGenerator ⟨Nat.le_of_ble_eq_true rfl, Nat.le_of_ble_eq_true rfl⟩ rfl rfl hl.1 (Nat.le_of_ble_eq_true rfl) dX7_choose_86 ⟨Nat.le_of_ble_eq_true rfl, Nat.le_of_ble_eq_true rfl⟩ (fun r M1 H locs hp hw => ?_)
          obtain ⟨hr1, hq⟩ := hp
          subst hr1
          rw [hq] at hw
          refine lv_ldc (v := 65536) hx hb cX.2.2.2.1 (cX.2.2.2.2.ts _ wK_X7_91) dX7_choose_89 ?_
          refine lv_idiv hx hb dX7_choose_91 (by decide) ?_
          refine lv_aload_n hx hb dX7_choose_92 rfl (lv_at hl 1 rfl) ?_
          refine r_get cX inX7 hw hR.1.1 rfl 0 (by decide) wF_X7_7 rfl dX7_choose_93 ?_
          refine lv_iconst (v := 1) hx hb dX7_choose_96 (by decide) ?_
          refine r_iald (v := f 1) cX hw hR.1.2.1 1 rfl (by decide) (by decide) rfl dX7_choose_97 ?_
          refine r_irem hx hb dX7_choose_98 hv.nz1 ?_
          exact r_iret cX hr hlocks hw ⟨by unfold chF; rw [if_neg c6, if_neg c25, if_neg (if01e c54), if_neg c74], rfl⟩ dX7_choose_99
        · refine lv_aload_n hx hb dX7_choose_77 rfl (lv_at hl 1 rfl) ?_
          refine lv_iload_n hx hb dX7_choose_78 rfl (lv_at hl 0 rfl) ?_
          refine r_Vi cX hw hR.1.1 rfl [.int (jr (7 * (nI k) + 3) (f 2))] (c_X7_leastLoaded l G hR.1 hv _ (eN f k) (eN_eq hv k hk) (eN_lt hv k).2) wM_X7_84 mw_X7_leastLoaded ⟨Nat.le_of_ble_eq_true rfl, Nat.le_of_ble_eq_true rfl⟩ rfl rfl hl.1 (Nat.le_of_ble_eq_true rfl) dX7_choose_79 ⟨Nat.le_of_ble_eq_true rfl, Nat.le_of_ble_eq_true rfl⟩ (fun r M1 H locs hp hw => ?_)
          obtain ⟨hr1, hq⟩ := hp
          subst hr1
          rw [hq] at hw
          refine lv_goto (tgt := 99) hx hb dX7_choose_82 (by decide) ?_
          exact r_iret cX hr hlocks hw ⟨by unfold chF; rw [if_neg c6, if_neg c25, if_neg (if01e c54), if_pos c74], rfl⟩ dX7_choose_99
      · refine lv_aload_n hx hb dX7_choose_57 rfl (lv_at hl 1 rfl) ?_
        refine r_get cX inX7 hw hR.1.1 rfl 0 (by decide) wF_X7_7 rfl dX7_choose_58 ?_
        refine lv_bipush (v := 49) hx hb dX7_choose_61 (by decide) ?_
        refine lv_iload_n hx hb dX7_choose_63 rfl (lv_at hl 0 rfl) ?_
        refine lv_iadd hx hb dX7_choose_64 ?_
        refine r_iald (v := f (49 + eN f k)) cX hw hR.1.2.1 (49 + eN f k) (by rw [eN_eq hv k hk]; exact nI_add 49 (eN f k)) (by have := (eN_lt hv k).2; omega) (by decide) rfl dX7_choose_65 ?_
        exact r_iret cX hr hlocks hw ⟨by unfold chF; rw [if_neg c6, if_neg c25, if_pos (if01n c54)], rfl⟩ dX7_choose_66
    · refine lv_aload_n hx hb dX7_choose_28 rfl (lv_at hl 0 rfl) ?_
      refine r_get cX inX7 hw hR.1.1 rfl 0 (by decide) wF_X7_7 rfl dX7_choose_29 ?_
      refine lv_bipush (v := 8) hx hb dX7_choose_32 (by decide) ?_
      refine r_iald (v := f 8) cX hw hR.1.2.1 8 rfl (by decide) (by decide) rfl dX7_choose_34 ?_
      refine lv_aload_n hx hb dX7_choose_35 rfl (lv_at hl 0 rfl) ?_
      refine r_get cX inX7 hw hR.1.1 rfl 0 (by decide) wF_X7_7 rfl dX7_choose_36 ?_
      refine lv_iconst (v := 1) hx hb dX7_choose_39 (by decide) ?_
      refine r_iald (v := f 1) cX hw hR.1.2.1 1 rfl (by decide) (by decide) rfl dX7_choose_40 ?_
      refine r_irem hx hb dX7_choose_41 hv.nz1 ?_
      exact r_iret cX hr hlocks hw ⟨by unfold chF; rw [if_neg c6, if_pos c25]; rfl, rfl⟩ dX7_choose_42
  · refine lv_iload_n hx hb dX7_choose_9 rfl (lv_at hl 1 rfl) ?_
    refine lv_aload_n hx hb dX7_choose_10 rfl (lv_at hl 0 rfl) ?_
    refine r_get cX inX7 hw hR.1.1 rfl 0 (by decide) wF_X7_7 rfl dX7_choose_11 ?_
    refine lv_iconst (v := 1) hx hb dX7_choose_14 (by decide) ?_
    refine r_iald (v := f 1) cX hw hR.1.2.1 1 rfl (by decide) (by decide) rfl dX7_choose_15 ?_
    refine r_irem hx hb dX7_choose_16 hv.nz1 ?_
    exact r_iret cX hr hlocks hw ⟨by obtain ⟨e1, e2, e3⟩ := hv.P; unfold chF; rw [if_pos c6, e3, jr_nI (by omega) (by omega) (by omega)], rfl⟩ dX7_choose_17

set_option maxHeartbeats 4000000 in
set_option maxRecDepth 100000 in
theorem c_X7_isTooBusy (l : Launch) (G : gG) {M : HM} {b : Nat → Nat} {f sv sl fl T iF iN : Nat → Int32} {ct len at_ it : Int32} (hR0 : IsRf G M b f sv sl fl T iF iN ct len at_ it) (x : Int32) (j : Nat) (hxi : x = nI j) (hj : j < 4) : Ci l yX7_isTooBusy cX7_isTooBusy 2 .boolean (rd 0 0 0) G [.ref (b 0), .int x] M (fun r M' => r = (if 200 < f (25 + j) - f 0 then 1 else 0) ∧ M' = M) := by
  refine Ci.of (by decide) (Nat.le_of_ble_eq_true rfl) ?_
  intro p e s m args below meth c ls cX hw hlocks hr hl
  have hx := cX.1
  have hb := cX.2.1
  have hl : lv_has ls 2 [(0, .ref (b 0)), (1, .int x)] := hl
  have hR := hR0.rf
  refine lv_aload_n hx hb dX7_isTooBusy_0 rfl (lv_at hl 0 rfl) ?_
  refine r_get cX inX7 hw hR.1.1 rfl 0 (by decide) wF_X7_7 rfl dX7_isTooBusy_1 ?_
  refine lv_bipush (v := 25) hx hb dX7_isTooBusy_4 (by decide) ?_
  refine lv_iload_n hx hb dX7_isTooBusy_6 rfl (lv_at hl 1 rfl) ?_
  refine lv_iadd hx hb dX7_isTooBusy_7 ?_
  refine r_iald (v := f (25 + j)) cX hw hR.1.2.1 (25 + j) (by rw [hxi]; exact nI_add 25 j) (by omega) (by decide) rfl dX7_isTooBusy_8 ?_
  refine lv_aload_n hx hb dX7_isTooBusy_9 rfl (lv_at hl 0 rfl) ?_
  refine r_get cX inX7 hw hR.1.1 rfl 0 (by decide) wF_X7_7 rfl dX7_isTooBusy_10 ?_
  refine lv_iconst (v := 0) hx hb dX7_isTooBusy_13 (by decide) ?_
  refine r_iald (v := f 0) cX hw hR.1.2.1 0 rfl (by decide) (by decide) rfl dX7_isTooBusy_14 ?_
  refine lv_isub hx hb dX7_isTooBusy_15 ?_
  refine lv_sipush (v := 200) hx hb dX7_isTooBusy_16 (by decide) ?_
  refine lv_icmp_le (tgt := 26) hx hb dX7_isTooBusy_19 (by decide) (fun c19 => ?_) (fun c19 => ?_)
  · refine lv_iconst (v := 0) hx hb dX7_isTooBusy_26 (by decide) ?_
    exact r_zret cX hr hlocks rfl hw ⟨(if_neg (Int32.not_lt.mpr c19)).symm, rfl⟩ dX7_isTooBusy_27
  · refine lv_iconst (v := 1) hx hb dX7_isTooBusy_22 (by decide) ?_
    refine lv_goto (tgt := 27) hx hb dX7_isTooBusy_23 (by decide) ?_
    exact r_zret cX hr hlocks rfl hw ⟨(if_pos (Int32.not_le.mp c19)).symm, rfl⟩ dX7_isTooBusy_27

set_option maxHeartbeats 4000000 in
set_option maxRecDepth 100000 in
theorem c_X7_endOf (l : Launch) (G : gG) {M : HM} {b : Nat → Nat} {f sv sl fl T iF iN : Nat → Int32} {ct len at_ it : Int32} (hR0 : IsRf G M b f sv sl fl T iF iN ct len at_ it) (x : Int32) (j : Nat) (hxi : x = nI j) (hj : j < 4) (size : Int32) (hr0 : ¬ f (13 + j) = 0) : Ci l yX7_endOf cX7_endOf 4 .int (rd 0 0 0) G [.ref (b 0), .int x, .int size] M (fun r M' => r = enF f j size ∧ M' = M) := by
  refine Ci.of (by decide) (Nat.le_of_ble_eq_true rfl) ?_
  intro p e s m args below meth c ls cX hw hlocks hr hl
  have hx := cX.1
  have hb := cX.2.1
  have hl : lv_has ls 4 [(0, .ref (b 0)), (1, .int x), (2, .int size)] := hl
  have hR := hR0.rf
  refine lv_aload_n hx hb dX7_endOf_0 rfl (lv_at hl 0 rfl) ?_
  refine r_get cX inX7 hw hR.1.1 rfl 0 (by decide) wF_X7_7 rfl dX7_endOf_1 ?_
  refine lv_bipush (v := 25) hx hb dX7_endOf_4 (by decide) ?_
  refine lv_iload_n hx hb dX7_endOf_6 rfl (lv_at hl 1 rfl) ?_
  refine lv_iadd hx hb dX7_endOf_7 ?_
  refine r_iald (v := f (25 + j)) cX hw hR.1.2.1 (25 + j) (by rw [hxi]; exact nI_add 25 j) (by omega) (by decide) rfl dX7_endOf_8 ?_
  refine lv_aload_n hx hb dX7_endOf_9 rfl (lv_at hl 0 rfl) ?_
  refine r_get cX inX7 hw hR.1.1 rfl 0 (by decide) wF_X7_7 rfl dX7_endOf_10 ?_
  refine lv_iconst (v := 0) hx hb dX7_endOf_13 (by decide) ?_
  refine r_iald (v := f 0) cX hw hR.1.2.1 0 rfl (by decide) (by decide) rfl dX7_endOf_14 ?_
  refine lv_icmp_le (tgt := 30) hx hb dX7_endOf_15 (by decide) (fun c15 => ?_) (fun c15 => ?_)
  · refine lv_aload_n hx hb dX7_endOf_30 rfl (lv_at hl 0 rfl) ?_
    refine r_get cX inX7 hw hR.1.1 rfl 0 (by decide) wF_X7_7 rfl dX7_endOf_31 ?_
    refine lv_iconst (v := 0) hx hb dX7_endOf_34 (by decide) ?_
    refine r_iald (v := f 0) cX hw hR.1.2.1 0 rfl (by decide) (by decide) rfl dX7_endOf_35 ?_
    refine lv_istore_n (lv' := [(3, .int (f 0)), (0, .ref (b 0)), (1, .int x), (2, .int size)]) hx hb dX7_endOf_36 rfl hl (by decide) rfl (fun ls hl => ?_)
    refine lv_iload_n hx hb dX7_endOf_37 rfl (lv_at hl 0 rfl) ?_
    refine lv_iload_n hx hb dX7_endOf_38 rfl (lv_at hl 3 rfl) ?_
    refine lv_aload_n hx hb dX7_endOf_39 rfl (lv_at hl 1 rfl) ?_
    refine r_get cX inX7 hw hR.1.1 rfl 0 (by decide) wF_X7_7 rfl dX7_endOf_40 ?_
    refine lv_bipush (v := 13) hx hb dX7_endOf_43 (by decide) ?_
    refine lv_iload_n hx hb dX7_endOf_45 rfl (lv_at hl 2 rfl) ?_
    refine lv_iadd hx hb dX7_endOf_46 ?_
    refine r_iald (v := f (13 + j)) cX hw hR.1.2.1 (13 + j) (by rw [hxi]; exact nI_add 13 j) (by omega) (by decide) rfl dX7_endOf_47 ?_
    refine lv_iadd hx hb dX7_endOf_48 ?_
    refine lv_iconst (v := 1) hx hb dX7_endOf_49 (by decide) ?_
    refine lv_isub hx hb dX7_endOf_50 ?_
    refine lv_aload_n hx hb dX7_endOf_51 rfl (lv_at hl 1 rfl) ?_
    refine r_get cX inX7 hw hR.1.1 rfl 0 (by decide) wF_X7_7 rfl dX7_endOf_52 ?_
    refine lv_bipush (v := 13) hx hb dX7_endOf_55 (by decide) ?_
    refine lv_iload_n hx hb dX7_endOf_57 rfl (lv_at hl 2 rfl) ?_
    refine lv_iadd hx hb dX7_endOf_58 ?_
    refine r_iald (v := f (13 + j)) cX hw hR.1.2.1 (13 + j) (by rw [hxi]; exact nI_add 13 j) (by omega) (by decide) rfl dX7_endOf_59 ?_
    refine lv_idiv hx hb dX7_endOf_60 hr0 ?_
    refine lv_iadd hx hb dX7_endOf_61 ?_
    exact r_iret cX hr hlocks hw ⟨by unfold enF bg tk; rw [if_neg (Int32.not_lt.mpr c15)], rfl⟩ dX7_endOf_62
  · refine lv_aload_n hx hb dX7_endOf_18 rfl (lv_at hl 0 rfl) ?_
    refine r_get cX inX7 hw hR.1.1 rfl 0 (by decide) wF_X7_7 rfl dX7_endOf_19 ?_
    refine lv_bipush (v := 25) hx hb dX7_endOf_22 (by decide) ?_
    refine lv_iload_n hx hb dX7_endOf_24 rfl (lv_at hl 1 rfl) ?_
    refine lv_iadd hx hb dX7_endOf_25 ?_
    refine r_iald (v := f (25 + j)) cX hw hR.1.2.1 (25 + j) (by rw [hxi]; exact nI_add 25 j) (by omega) (by decide) rfl dX7_endOf_26 ?_
    refine lv_goto (tgt := 36) hx hb dX7_endOf_27 (by decide) ?_
    refine lv_istore_n (lv' := [(3, .int (f (25 + j))), (0, .ref (b 0)), (1, .int x), (2, .int size)]) hx hb dX7_endOf_36 rfl hl (by decide) rfl (fun ls hl => ?_)
    refine lv_iload_n hx hb dX7_endOf_37 rfl (lv_at hl 0 rfl) ?_
    refine lv_iload_n hx hb dX7_endOf_38 rfl (lv_at hl 3 rfl) ?_
    refine lv_aload_n hx hb dX7_endOf_39 rfl (lv_at hl 1 rfl) ?_
    refine r_get cX inX7 hw hR.1.1 rfl 0 (by decide) wF_X7_7 rfl dX7_endOf_40 ?_
    refine lv_bipush (v := 13) hx hb dX7_endOf_43 (by decide) ?_
    refine lv_iload_n hx hb dX7_endOf_45 rfl (lv_at hl 2 rfl) ?_
    refine lv_iadd hx hb dX7_endOf_46 ?_
    refine r_iald (v := f (13 + j)) cX hw hR.1.2.1 (13 + j) (by rw [hxi]; exact nI_add 13 j) (by omega) (by decide) rfl dX7_endOf_47 ?_
    refine lv_iadd hx hb dX7_endOf_48 ?_
    refine lv_iconst (v := 1) hx hb dX7_endOf_49 (by decide) ?_
    refine lv_isub hx hb dX7_endOf_50 ?_
    refine lv_aload_n hx hb dX7_endOf_51 rfl (lv_at hl 1 rfl) ?_
    refine r_get cX inX7 hw hR.1.1 rfl 0 (by decide) wF_X7_7 rfl dX7_endOf_52 ?_
    refine lv_bipush (v := 13) hx hb dX7_endOf_55 (by decide) ?_
    refine lv_iload_n hx hb dX7_endOf_57 rfl (lv_at hl 2 rfl) ?_
    refine lv_iadd hx hb dX7_endOf_58 ?_
    refine r_iald (v := f (13 + j)) cX hw hR.1.2.1 (13 + j) (by rw [hxi]; exact nI_add 13 j) (by omega) (by decide) rfl dX7_endOf_59 ?_
    refine lv_idiv hx hb dX7_endOf_60 hr0 ?_
    refine lv_iadd hx hb dX7_endOf_61 ?_
    exact r_iret cX hr hlocks hw ⟨by unfold enF bg tk; rw [if_pos (Int32.not_le.mp c15)], rfl⟩ dX7_endOf_62

set_option maxHeartbeats 4000000 in
set_option maxRecDepth 100000 in
theorem c_X7_latencyOf (l : Launch) (G : gG) {M : HM} {b : Nat → Nat} {f sv sl fl T iF iN : Nat → Int32} {ct len at_ it : Int32} (hR0 : IsRf G M b f sv sl fl T iF iN ct len at_ it) {B : Nat} (hv : Inv B f) (x : Int32) (j : Nat) (hxi : x = nI j) (hj : j < 4) (size : Int32) : Ci l yX7_latencyOf cX7_latencyOf 3 .int (rd 1 0 0) G [.ref (b 0), .int x, .int size] M (fun r M' => r = laF f size j ∧ M' = M) := by
  refine Ci.of (by decide) (Nat.le_of_ble_eq_true rfl) ?_
  intro p e s m args below meth c ls cX hw hlocks hr hl
  have hx := cX.1
  have hb := cX.2.1
  have hl : lv_has ls 3 [(0, .ref (b 0)), (1, .int x), (2, .int size)] := hl
  have hR := hR0.rf
  refine lv_aload_n hx hb dX7_latencyOf_0 rfl (lv_at hl 0 rfl) ?_
  refine lv_iload_n hx hb dX7_latencyOf_1 rfl (lv_at hl 1 rfl) ?_
  refine lv_iload_n hx hb dX7_latencyOf_2 rfl (lv_at hl 2 rfl) ?_
  refine r_Vi cX hw hR.1.1 rfl [.int x, .int size] (c_X7_endOf l G hR.1 x j hxi hj size (hv.nzr j hj)) wM_X7_105 mw_X7_endOf ⟨Nat.le_of_ble_eq_true rfl, Nat.le_of_ble_eq_true rfl⟩ rfl rfl hl.1 (Nat.le_of_ble_eq_true rfl) dX7_latencyOf_3 ⟨Nat.le_of_ble_eq_true rfl, Nat.le_of_ble_eq_true rfl⟩ (fun r M1 H locs hp hw => ?_)
  obtain ⟨hr1, hq⟩ := hp
  subst hr1
  rw [hq] at hw
  refine lv_aload_n hx hb dX7_latencyOf_6 rfl (lv_at hl 0 rfl) ?_
  refine r_get cX inX7 hw hR.1.1 rfl 0 (by decide) wF_X7_7 rfl dX7_latencyOf_7 ?_
  refine lv_bipush (v := 9) hx hb dX7_latencyOf_10 (by decide) ?_
  refine lv_iload_n hx hb dX7_latencyOf_12 rfl (lv_at hl 1 rfl) ?_
  refine lv_iadd hx hb dX7_latencyOf_13 ?_
  refine r_iald (v := f (9 + j)) cX hw hR.1.2.1 (9 + j) (by rw [hxi]; exact nI_add 9 j) (by omega) (by decide) rfl dX7_latencyOf_14 ?_
  refine lv_iadd hx hb dX7_latencyOf_15 ?_
  refine lv_aload_n hx hb dX7_latencyOf_16 rfl (lv_at hl 0 rfl) ?_
  refine r_get cX inX7 hw hR.1.1 rfl 0 (by decide) wF_X7_7 rfl dX7_latencyOf_17 ?_
  refine lv_iconst (v := 0) hx hb dX7_latencyOf_20 (by decide) ?_
  refine r_iald (v := f 0) cX hw hR.1.2.1 0 rfl (by decide) (by decide) rfl dX7_latencyOf_21 ?_
  refine lv_isub hx hb dX7_latencyOf_22 ?_
  exact r_iret cX hr hlocks hw ⟨hv.lat j hj size, rfl⟩ dX7_latencyOf_23

set_option maxHeartbeats 4000000 in
set_option maxRecDepth 100000 in
theorem c_X7_ofPath (l : Launch) (G : gG) {M : HM} {b : Nat → Nat} {f sv sl fl T iF iN : Nat → Int32} {ct len at_ it : Int32} (hR0 : IsRf G M b f sv sl fl T iF iN ct len at_ it) {B : Nat} (hv : Inv B f) (x : Int32) (bb : Nat) (hbb : bb ≤ 37) : Ci l yX7_ofPath cX7_ofPath 3 .int (rd 2 0 0) G [.ref (b 0), .int x, .int (nI bb)] M (fun r M' => r = q_pth bb x f ∧ M' = M) := by
  refine Ci.of (by decide) (Nat.le_of_ble_eq_true rfl) ?_
  intro p e s m args below meth c ls cX hw hlocks hr hl
  have hx := cX.1
  have hb := cX.2.1
  have hl : lv_has ls 3 [(0, .ref (b 0)), (1, .int x), (2, .int (nI bb))] := hl
  have hR := hR0.rf
  refine lv_aload_n hx hb dX7_ofPath_0 rfl (lv_at hl 0 rfl) ?_
  refine lv_iload_n hx hb dX7_ofPath_1 rfl (lv_at hl 1 rfl) ?_
  refine r_Vi cX hw hR.1.1 rfl [.int x] (c_X7_isPath l G hR.1 x) wM_X7_51 mw_X7_isPath ⟨Nat.le_of_ble_eq_true rfl, Nat.le_of_ble_eq_true rfl⟩ rfl rfl hl.1 (Nat.le_of_ble_eq_true rfl) dX7_ofPath_2 ⟨Nat.le_of_ble_eq_true rfl, Nat.le_of_ble_eq_true rfl⟩ (fun r M1 H locs hp hw => ?_)
  obtain ⟨hr1, hq⟩ := hp
  subst hr1
  rw [hq] at hw
  refine lv_if_eq (tgt := 19) hx hb dX7_ofPath_5 (by decide) (fun c5 => ?_) (fun c5 => ?_)
  · refine lv_iconst (v := (-1)) hx hb dX7_ofPath_19 (by decide) ?_
    exact r_iret cX hr hlocks hw ⟨by unfold q_pth; rw [if_neg (if01e c5)], rfl⟩ dX7_ofPath_20
  · obtain ⟨k, hk, hkP, hxk, hxc⟩ := path_ix hv (if01n c5)
    refine lv_aload_n hx hb dX7_ofPath_8 rfl (lv_at hl 0 rfl) ?_
    refine r_get cX inX7 hw hR.1.1 rfl 0 (by decide) wF_X7_7 rfl dX7_ofPath_9 ?_
    refine lv_iload_n hx hb dX7_ofPath_12 rfl (lv_at hl 2 rfl) ?_
    refine lv_iload_n hx hb dX7_ofPath_13 rfl (lv_at hl 1 rfl) ?_
    refine lv_iadd hx hb dX7_ofPath_14 ?_
    refine r_iald (v := f (bb + k)) cX hw hR.1.2.1 (bb + k) (by rw [hxk]; exact nI_add bb k) (by omega) (by decide) rfl dX7_ofPath_15 ?_
    refine lv_goto (tgt := 20) hx hb dX7_ofPath_16 (by decide) ?_
    exact r_iret cX hr hlocks hw ⟨by unfold q_pth; rw [if_pos (if01n c5), hxc], rfl⟩ dX7_ofPath_20

set_option maxHeartbeats 4000000 in
set_option maxRecDepth 100000 in
theorem c_X7_ofFlow (l : Launch) (G : gG) {M : HM} {b : Nat → Nat} {f sv sl fl T iF iN : Nat → Int32} {ct len at_ it : Int32} (hR0 : IsRf G M b f sv sl fl T iF iN ct len at_ it) (x : Int32) (bb : Nat) (hbb : bb ≤ 137) : Ci l yX7_ofFlow cX7_ofFlow 3 .int (rd 2 0 0) G [.ref (b 0), .int x, .int (nI bb)] M (fun r M' => r = q_flw bb x f ∧ M' = M) := by
  refine Ci.of (by decide) (Nat.le_of_ble_eq_true rfl) ?_
  intro p e s m args below meth c ls cX hw hlocks hr hl
  have hx := cX.1
  have hb := cX.2.1
  have hl : lv_has ls 3 [(0, .ref (b 0)), (1, .int x), (2, .int (nI bb))] := hl
  have hR := hR0.rf
  refine lv_iload_n hx hb dX7_ofFlow_0 rfl (lv_at hl 1 rfl) ?_
  refine r_Si cX hw [.int x] (c_X7_isFlow l G x) wM_X7_108 mw_X7_isFlow ⟨Nat.le_of_ble_eq_true rfl, Nat.le_of_ble_eq_true rfl⟩ rfl rfl hl.1 (Nat.le_of_ble_eq_true rfl) dX7_ofFlow_1 ⟨Nat.le_of_ble_eq_true rfl, Nat.le_of_ble_eq_true rfl⟩ (fun r M1 H locs hp hw => ?_)
  obtain ⟨hr1, hq⟩ := hp
  subst hr1
  rw [hq] at hw
  refine lv_if_eq (tgt := 18) hx hb dX7_ofFlow_4 (by decide) (fun c4 => ?_) (fun c4 => ?_)
  · refine lv_iconst (v := (-1)) hx hb dX7_ofFlow_18 (by decide) ?_
    exact r_iret cX hr hlocks hw ⟨by unfold q_flw; rw [if_neg (if01e c4)], rfl⟩ dX7_ofFlow_19
  · obtain ⟨k, hk, hxk, hxc⟩ := lit_ix 15 (by decide) (if01n c4)
    refine lv_aload_n hx hb dX7_ofFlow_7 rfl (lv_at hl 0 rfl) ?_
    refine r_get cX inX7 hw hR.1.1 rfl 0 (by decide) wF_X7_7 rfl dX7_ofFlow_8 ?_
    refine lv_iload_n hx hb dX7_ofFlow_11 rfl (lv_at hl 2 rfl) ?_
    refine lv_iload_n hx hb dX7_ofFlow_12 rfl (lv_at hl 1 rfl) ?_
    refine lv_iadd hx hb dX7_ofFlow_13 ?_
    refine r_iald (v := f (bb + k)) cX hw hR.1.2.1 (bb + k) (by rw [hxk]; exact nI_add bb k) (by omega) (by decide) rfl dX7_ofFlow_14 ?_
    refine lv_goto (tgt := 19) hx hb dX7_ofFlow_15 (by decide) ?_
    exact r_iret cX hr hlocks hw ⟨by unfold q_flw; rw [if_pos (if01n c4), hxc], rfl⟩ dX7_ofFlow_19

set_option maxHeartbeats 4000000 in
set_option maxRecDepth 100000 in
theorem c_X7_load (l : Launch) (G : gG) {M : HM} {b : Nat → Nat} {f sv sl fl T iF iN : Nat → Int32} {ct len at_ it : Int32} (hR0 : IsRf G M b f sv sl fl T iF iN ct len at_ it) {B : Nat} (hv : Inv B f) (x : Int32) : Ci l yX7_load cX7_load 2 .int (rd 3 0 0) G [.ref (b 0), .int x] M (fun r M' => r = q_pth 21 x f ∧ M' = M) := by
  refine Ci.of (by decide) (Nat.le_of_ble_eq_true rfl) ?_
  intro p e s m args below meth c ls cX hw hlocks hr hl
  have hx := cX.1
  have hb := cX.2.1
  have hl : lv_has ls 2 [(0, .ref (b 0)), (1, .int x)] := hl
  have hR := hR0.rf
  refine lv_aload_n hx hb dX7_load_0 rfl (lv_at hl 0 rfl) ?_
  refine lv_iload_n hx hb dX7_load_1 rfl (lv_at hl 1 rfl) ?_
  refine lv_bipush (v := 21) hx hb dX7_load_2 (by decide) ?_
  refine r_Vi cX hw hR.1.1 rfl [.int x, .int 21] (c_X7_ofPath l G hR.1 hv x 21 (by omega)) wM_X7_120 mw_X7_ofPath ⟨Nat.le_of_ble_eq_true rfl, Nat.le_of_ble_eq_true rfl⟩ rfl rfl hl.1 (Nat.le_of_ble_eq_true rfl) dX7_load_4 ⟨Nat.le_of_ble_eq_true rfl, Nat.le_of_ble_eq_true rfl⟩ (fun r M1 H locs hp hw => ?_)
  obtain ⟨hr1, hq⟩ := hp
  subst hr1
  rw [hq] at hw
  exact r_iret cX hr hlocks hw ⟨rfl, rfl⟩ dX7_load_7

set_option maxHeartbeats 4000000 in
set_option maxRecDepth 100000 in
theorem c_X7_packets (l : Launch) (G : gG) {M : HM} {b : Nat → Nat} {f sv sl fl T iF iN : Nat → Int32} {ct len at_ it : Int32} (hR0 : IsRf G M b f sv sl fl T iF iN ct len at_ it) {B : Nat} (hv : Inv B f) (x : Int32) : Ci l yX7_packets cX7_packets 2 .int (rd 3 0 0) G [.ref (b 0), .int x] M (fun r M' => r = q_pth 29 x f ∧ M' = M) := by
  refine Ci.of (by decide) (Nat.le_of_ble_eq_true rfl) ?_
  intro p e s m args below meth c ls cX hw hlocks hr hl
  have hx := cX.1
  have hb := cX.2.1
  have hl : lv_has ls 2 [(0, .ref (b 0)), (1, .int x)] := hl
  have hR := hR0.rf
  refine lv_aload_n hx hb dX7_packets_0 rfl (lv_at hl 0 rfl) ?_
  refine lv_iload_n hx hb dX7_packets_1 rfl (lv_at hl 1 rfl) ?_
  refine lv_bipush (v := 29) hx hb dX7_packets_2 (by decide) ?_
  refine r_Vi cX hw hR.1.1 rfl [.int x, .int 29] (c_X7_ofPath l G hR.1 hv x 29 (by omega)) wM_X7_120 mw_X7_ofPath ⟨Nat.le_of_ble_eq_true rfl, Nat.le_of_ble_eq_true rfl⟩ rfl rfl hl.1 (Nat.le_of_ble_eq_true rfl) dX7_packets_4 ⟨Nat.le_of_ble_eq_true rfl, Nat.le_of_ble_eq_true rfl⟩ (fun r M1 H locs hp hw => ?_)
  obtain ⟨hr1, hq⟩ := hp
  subst hr1
  rw [hq] at hw
  exact r_iret cX hr hlocks hw ⟨rfl, rfl⟩ dX7_packets_7

set_option maxHeartbeats 4000000 in
set_option maxRecDepth 100000 in
theorem c_X7_bytes (l : Launch) (G : gG) {M : HM} {b : Nat → Nat} {f sv sl fl T iF iN : Nat → Int32} {ct len at_ it : Int32} (hR0 : IsRf G M b f sv sl fl T iF iN ct len at_ it) {B : Nat} (hv : Inv B f) (x : Int32) : Ci l yX7_bytes cX7_bytes 2 .int (rd 3 0 0) G [.ref (b 0), .int x] M (fun r M' => r = q_pth 33 x f ∧ M' = M) := by
  refine Ci.of (by decide) (Nat.le_of_ble_eq_true rfl) ?_
  intro p e s m args below meth c ls cX hw hlocks hr hl
  have hx := cX.1
  have hb := cX.2.1
  have hl : lv_has ls 2 [(0, .ref (b 0)), (1, .int x)] := hl
  have hR := hR0.rf
  refine lv_aload_n hx hb dX7_bytes_0 rfl (lv_at hl 0 rfl) ?_
  refine lv_iload_n hx hb dX7_bytes_1 rfl (lv_at hl 1 rfl) ?_
  refine lv_bipush (v := 33) hx hb dX7_bytes_2 (by decide) ?_
  refine r_Vi cX hw hR.1.1 rfl [.int x, .int 33] (c_X7_ofPath l G hR.1 hv x 33 (by omega)) wM_X7_120 mw_X7_ofPath ⟨Nat.le_of_ble_eq_true rfl, Nat.le_of_ble_eq_true rfl⟩ rfl rfl hl.1 (Nat.le_of_ble_eq_true rfl) dX7_bytes_4 ⟨Nat.le_of_ble_eq_true rfl, Nat.le_of_ble_eq_true rfl⟩ (fun r M1 H locs hp hw => ?_)
  obtain ⟨hr1, hq⟩ := hp
  subst hr1
  rw [hq] at hw
  exact r_iret cX hr hlocks hw ⟨rfl, rfl⟩ dX7_bytes_7

set_option maxHeartbeats 4000000 in
set_option maxRecDepth 100000 in
theorem c_X7_drops (l : Launch) (G : gG) {M : HM} {b : Nat → Nat} {f sv sl fl T iF iN : Nat → Int32} {ct len at_ it : Int32} (hR0 : IsRf G M b f sv sl fl T iF iN ct len at_ it) {B : Nat} (hv : Inv B f) (x : Int32) : Ci l yX7_drops cX7_drops 2 .int (rd 3 0 0) G [.ref (b 0), .int x] M (fun r M' => r = q_pth 37 x f ∧ M' = M) := by
  refine Ci.of (by decide) (Nat.le_of_ble_eq_true rfl) ?_
  intro p e s m args below meth c ls cX hw hlocks hr hl
  have hx := cX.1
  have hb := cX.2.1
  have hl : lv_has ls 2 [(0, .ref (b 0)), (1, .int x)] := hl
  have hR := hR0.rf
  refine lv_aload_n hx hb dX7_drops_0 rfl (lv_at hl 0 rfl) ?_
  refine lv_iload_n hx hb dX7_drops_1 rfl (lv_at hl 1 rfl) ?_
  refine lv_bipush (v := 37) hx hb dX7_drops_2 (by decide) ?_
  refine r_Vi cX hw hR.1.1 rfl [.int x, .int 37] (c_X7_ofPath l G hR.1 hv x 37 (by omega)) wM_X7_120 mw_X7_ofPath ⟨Nat.le_of_ble_eq_true rfl, Nat.le_of_ble_eq_true rfl⟩ rfl rfl hl.1 (Nat.le_of_ble_eq_true rfl) dX7_drops_4 ⟨Nat.le_of_ble_eq_true rfl, Nat.le_of_ble_eq_true rfl⟩ (fun r M1 H locs hp hw => ?_)
  obtain ⟨hr1, hq⟩ := hp
  subst hr1
  rw [hq] at hw
  exact r_iret cX hr hlocks hw ⟨rfl, rfl⟩ dX7_drops_7

set_option maxHeartbeats 4000000 in
set_option maxRecDepth 100000 in
theorem c_X7_flowlets (l : Launch) (G : gG) {M : HM} {b : Nat → Nat} {f sv sl fl T iF iN : Nat → Int32} {ct len at_ it : Int32} (hR0 : IsRf G M b f sv sl fl T iF iN ct len at_ it) (x : Int32) : Ci l yX7_flowlets cX7_flowlets 2 .int (rd 3 0 0) G [.ref (b 0), .int x] M (fun r M' => r = q_flw 73 x f ∧ M' = M) := by
  refine Ci.of (by decide) (Nat.le_of_ble_eq_true rfl) ?_
  intro p e s m args below meth c ls cX hw hlocks hr hl
  have hx := cX.1
  have hb := cX.2.1
  have hl : lv_has ls 2 [(0, .ref (b 0)), (1, .int x)] := hl
  have hR := hR0.rf
  refine lv_aload_n hx hb dX7_flowlets_0 rfl (lv_at hl 0 rfl) ?_
  refine lv_iload_n hx hb dX7_flowlets_1 rfl (lv_at hl 1 rfl) ?_
  refine lv_bipush (v := 73) hx hb dX7_flowlets_2 (by decide) ?_
  refine r_Vi cX hw hR.1.1 rfl [.int x, .int 73] (c_X7_ofFlow l G hR.1 x 73 (by omega)) wM_X7_126 mw_X7_ofFlow ⟨Nat.le_of_ble_eq_true rfl, Nat.le_of_ble_eq_true rfl⟩ rfl rfl hl.1 (Nat.le_of_ble_eq_true rfl) dX7_flowlets_4 ⟨Nat.le_of_ble_eq_true rfl, Nat.le_of_ble_eq_true rfl⟩ (fun r M1 H locs hp hw => ?_)
  obtain ⟨hr1, hq⟩ := hp
  subst hr1
  rw [hq] at hw
  exact r_iret cX hr hlocks hw ⟨rfl, rfl⟩ dX7_flowlets_7

set_option maxHeartbeats 4000000 in
set_option maxRecDepth 100000 in
theorem c_X7_pathChanges (l : Launch) (G : gG) {M : HM} {b : Nat → Nat} {f sv sl fl T iF iN : Nat → Int32} {ct len at_ it : Int32} (hR0 : IsRf G M b f sv sl fl T iF iN ct len at_ it) (x : Int32) : Ci l yX7_pathChanges cX7_pathChanges 2 .int (rd 3 0 0) G [.ref (b 0), .int x] M (fun r M' => r = q_flw 89 x f ∧ M' = M) := by
  refine Ci.of (by decide) (Nat.le_of_ble_eq_true rfl) ?_
  intro p e s m args below meth c ls cX hw hlocks hr hl
  have hx := cX.1
  have hb := cX.2.1
  have hl : lv_has ls 2 [(0, .ref (b 0)), (1, .int x)] := hl
  have hR := hR0.rf
  refine lv_aload_n hx hb dX7_pathChanges_0 rfl (lv_at hl 0 rfl) ?_
  refine lv_iload_n hx hb dX7_pathChanges_1 rfl (lv_at hl 1 rfl) ?_
  refine lv_bipush (v := 89) hx hb dX7_pathChanges_2 (by decide) ?_
  refine r_Vi cX hw hR.1.1 rfl [.int x, .int 89] (c_X7_ofFlow l G hR.1 x 89 (by omega)) wM_X7_126 mw_X7_ofFlow ⟨Nat.le_of_ble_eq_true rfl, Nat.le_of_ble_eq_true rfl⟩ rfl rfl hl.1 (Nat.le_of_ble_eq_true rfl) dX7_pathChanges_4 ⟨Nat.le_of_ble_eq_true rfl, Nat.le_of_ble_eq_true rfl⟩ (fun r M1 H locs hp hw => ?_)
  obtain ⟨hr1, hq⟩ := hp
  subst hr1
  rw [hq] at hw
  exact r_iret cX hr hlocks hw ⟨rfl, rfl⟩ dX7_pathChanges_7

set_option maxHeartbeats 4000000 in
set_option maxRecDepth 100000 in
theorem c_X7_reordered (l : Launch) (G : gG) {M : HM} {b : Nat → Nat} {f sv sl fl T iF iN : Nat → Int32} {ct len at_ it : Int32} (hR0 : IsRf G M b f sv sl fl T iF iN ct len at_ it) (x : Int32) : Ci l yX7_reordered cX7_reordered 2 .int (rd 3 0 0) G [.ref (b 0), .int x] M (fun r M' => r = q_flw 121 x f ∧ M' = M) := by
  refine Ci.of (by decide) (Nat.le_of_ble_eq_true rfl) ?_
  intro p e s m args below meth c ls cX hw hlocks hr hl
  have hx := cX.1
  have hb := cX.2.1
  have hl : lv_has ls 2 [(0, .ref (b 0)), (1, .int x)] := hl
  have hR := hR0.rf
  refine lv_aload_n hx hb dX7_reordered_0 rfl (lv_at hl 0 rfl) ?_
  refine lv_iload_n hx hb dX7_reordered_1 rfl (lv_at hl 1 rfl) ?_
  refine lv_bipush (v := 121) hx hb dX7_reordered_2 (by decide) ?_
  refine r_Vi cX hw hR.1.1 rfl [.int x, .int 121] (c_X7_ofFlow l G hR.1 x 121 (by omega)) wM_X7_126 mw_X7_ofFlow ⟨Nat.le_of_ble_eq_true rfl, Nat.le_of_ble_eq_true rfl⟩ rfl rfl hl.1 (Nat.le_of_ble_eq_true rfl) dX7_reordered_4 ⟨Nat.le_of_ble_eq_true rfl, Nat.le_of_ble_eq_true rfl⟩ (fun r M1 H locs hp hw => ?_)
  obtain ⟨hr1, hq⟩ := hp
  subst hr1
  rw [hq] at hw
  exact r_iret cX hr hlocks hw ⟨rfl, rfl⟩ dX7_reordered_7

set_option maxHeartbeats 4000000 in
set_option maxRecDepth 100000 in
theorem c_X7_lastArrival (l : Launch) (G : gG) {M : HM} {b : Nat → Nat} {f sv sl fl T iF iN : Nat → Int32} {ct len at_ it : Int32} (hR0 : IsRf G M b f sv sl fl T iF iN ct len at_ it) (x : Int32) : Ci l yX7_lastArrival cX7_lastArrival 2 .int (rd 3 0 0) G [.ref (b 0), .int x] M (fun r M' => r = q_flw 137 x f ∧ M' = M) := by
  refine Ci.of (by decide) (Nat.le_of_ble_eq_true rfl) ?_
  intro p e s m args below meth c ls cX hw hlocks hr hl
  have hx := cX.1
  have hb := cX.2.1
  have hl : lv_has ls 2 [(0, .ref (b 0)), (1, .int x)] := hl
  have hR := hR0.rf
  refine lv_aload_n hx hb dX7_lastArrival_0 rfl (lv_at hl 0 rfl) ?_
  refine lv_iload_n hx hb dX7_lastArrival_1 rfl (lv_at hl 1 rfl) ?_
  refine lv_sipush (v := 137) hx hb dX7_lastArrival_2 (by decide) ?_
  refine r_Vi cX hw hR.1.1 rfl [.int x, .int 137] (c_X7_ofFlow l G hR.1 x 137 (by omega)) wM_X7_126 mw_X7_ofFlow ⟨Nat.le_of_ble_eq_true rfl, Nat.le_of_ble_eq_true rfl⟩ rfl rfl hl.1 (Nat.le_of_ble_eq_true rfl) dX7_lastArrival_5 ⟨Nat.le_of_ble_eq_true rfl, Nat.le_of_ble_eq_true rfl⟩ (fun r M1 H locs hp hw => ?_)
  obtain ⟨hr1, hq⟩ := hp
  subst hr1
  rw [hq] at hw
  exact r_iret cX hr hlocks hw ⟨rfl, rfl⟩ dX7_lastArrival_8

set_option maxHeartbeats 4000000 in
set_option maxRecDepth 100000 in
theorem c_X7_now (l : Launch) (G : gG) {M : HM} {b : Nat → Nat} {f sv sl fl T iF iN : Nat → Int32} {ct len at_ it : Int32} (hR0 : IsRf G M b f sv sl fl T iF iN ct len at_ it) : Ci l yX7_now cX7_now 1 .int (rd 0 0 0) G [.ref (b 0)] M (fun r M' => r = f 0 ∧ M' = M) := by
  refine Ci.of (by decide) (Nat.le_of_ble_eq_true rfl) ?_
  intro p e s m args below meth c ls cX hw hlocks hr hl
  have hx := cX.1
  have hb := cX.2.1
  have hl : lv_has ls 1 [(0, .ref (b 0))] := hl
  have hR := hR0.rf
  refine lv_aload_n hx hb dX7_now_0 rfl (lv_at hl 0 rfl) ?_
  refine r_get cX inX7 hw hR.1.1 rfl 0 (by decide) wF_X7_7 rfl dX7_now_1 ?_
  refine lv_iconst (v := 0) hx hb dX7_now_4 (by decide) ?_
  refine r_iald (v := f 0) cX hw hR.1.2.1 0 rfl (by decide) (by decide) rfl dX7_now_5 ?_
  exact r_iret cX hr hlocks hw ⟨rfl, rfl⟩ dX7_now_6

set_option maxHeartbeats 4000000 in
set_option maxRecDepth 100000 in
theorem c_X7_entryOf (l : Launch) (G : gG) {M : HM} {b : Nat → Nat} {f sv sl fl T iF iN : Nat → Int32} {ct len at_ it : Int32} (hR0 : IsRf G M b f sv sl fl T iF iN ct len at_ it) {B : Nat} (hv : Inv B f) (x : Int32) : Ci l yX7_entryOf cX7_entryOf 2 .int (rd 2 0 0) G [.ref (b 0), .int x] M (fun r M' => r = q_entryOf x f ∧ M' = M) := by
  refine Ci.of (by decide) (Nat.le_of_ble_eq_true rfl) ?_
  intro p e s m args below meth c ls cX hw hlocks hr hl
  have hx := cX.1
  have hb := cX.2.1
  have hl : lv_has ls 2 [(0, .ref (b 0)), (1, .int x)] := hl
  have hR := hR0.rf
  refine lv_iload_n hx hb dX7_entryOf_0 rfl (lv_at hl 1 rfl) ?_
  refine r_Si cX hw [.int x] (c_X7_isFlow l G x) wM_X7_108 mw_X7_isFlow ⟨Nat.le_of_ble_eq_true rfl, Nat.le_of_ble_eq_true rfl⟩ rfl rfl hl.1 (Nat.le_of_ble_eq_true rfl) dX7_entryOf_1 ⟨Nat.le_of_ble_eq_true rfl, Nat.le_of_ble_eq_true rfl⟩ (fun r M1 H locs hp hw => ?_)
  obtain ⟨hr1, hq⟩ := hp
  subst hr1
  rw [hq] at hw
  refine lv_if_eq (tgt := 15) hx hb dX7_entryOf_4 (by decide) (fun c4 => ?_) (fun c4 => ?_)
  · refine lv_iconst (v := (-1)) hx hb dX7_entryOf_15 (by decide) ?_
    exact r_iret cX hr hlocks hw ⟨by unfold q_entryOf; rw [if_neg (fun h => if01e c4 h)], rfl⟩ dX7_entryOf_16
  · refine lv_aload_n hx hb dX7_entryOf_7 rfl (lv_at hl 0 rfl) ?_
    refine lv_iload_n hx hb dX7_entryOf_8 rfl (lv_at hl 1 rfl) ?_
    refine r_Vi cX hw hR.1.1 rfl [.int x] (c_X7_slotOf l G hR.1 x hv.nz2) wM_X7_47 mw_X7_slotOf ⟨Nat.le_of_ble_eq_true rfl, Nat.le_of_ble_eq_true rfl⟩ rfl rfl hl.1 (Nat.le_of_ble_eq_true rfl) dX7_entryOf_9 ⟨Nat.le_of_ble_eq_true rfl, Nat.le_of_ble_eq_true rfl⟩ (fun r M1 H locs hp hw => ?_)
    obtain ⟨hr1, hq⟩ := hp
    subst hr1
    rw [hq] at hw
    refine lv_goto (tgt := 16) hx hb dX7_entryOf_12 (by decide) ?_
    exact r_iret cX hr hlocks hw ⟨by unfold q_entryOf; rw [if_pos (if01n c4)], rfl⟩ dX7_entryOf_16

set_option maxHeartbeats 4000000 in
set_option maxRecDepth 100000 in
theorem c_X7_isActive (l : Launch) (G : gG) {M : HM} {b : Nat → Nat} {f sv sl fl T iF iN : Nat → Int32} {ct len at_ it : Int32} (hR0 : IsRf G M b f sv sl fl T iF iN ct len at_ it) {B : Nat} (hv : Inv B f) (x : Int32) : Ci l yX7_isActive cX7_isActive 2 .int (rd 2 0 0) G [.ref (b 0), .int x] M (fun r M' => r = q_isActive x f ∧ M' = M) := by
  refine Ci.of (by decide) (Nat.le_of_ble_eq_true rfl) ?_
  intro p e s m args below meth c ls cX hw hlocks hr hl
  have hx := cX.1
  have hb := cX.2.1
  have hl : lv_has ls 2 [(0, .ref (b 0)), (1, .int x)] := hl
  have hR := hR0.rf
  refine lv_aload_n hx hb dX7_isActive_0 rfl (lv_at hl 0 rfl) ?_
  refine lv_iload_n hx hb dX7_isActive_1 rfl (lv_at hl 1 rfl) ?_
  refine r_Vi cX hw hR.1.1 rfl [.int x] (c_X7_isEntry l G hR.1 x) wM_X7_117 mw_X7_isEntry ⟨Nat.le_of_ble_eq_true rfl, Nat.le_of_ble_eq_true rfl⟩ rfl rfl hl.1 (Nat.le_of_ble_eq_true rfl) dX7_isActive_2 ⟨Nat.le_of_ble_eq_true rfl, Nat.le_of_ble_eq_true rfl⟩ (fun r M1 H locs hp hw => ?_)
  obtain ⟨hr1, hq⟩ := hp
  subst hr1
  rw [hq] at hw
  refine lv_if_ne (tgt := 12) hx hb dX7_isActive_5 (by decide) (fun c5 => ?_) (fun c5 => ?_)
  · obtain ⟨k, hk, hkP, hxk, hxc⟩ := entry_ix hv (if01n c5)
    refine lv_aload_n hx hb dX7_isActive_12 rfl (lv_at hl 0 rfl) ?_
    refine lv_iload_n hx hb dX7_isActive_13 rfl (lv_at hl 1 rfl) ?_
    refine r_Vi cX hw hR.1.1 rfl [.int x] (c_X7_isLive l G hR.1 x k hxk hk) wM_X7_81 mw_X7_isLive ⟨Nat.le_of_ble_eq_true rfl, Nat.le_of_ble_eq_true rfl⟩ rfl rfl hl.1 (Nat.le_of_ble_eq_true rfl) dX7_isActive_14 ⟨Nat.le_of_ble_eq_true rfl, Nat.le_of_ble_eq_true rfl⟩ (fun r M1 H locs hp hw => ?_)
    obtain ⟨hr1, hq⟩ := hp
    subst hr1
    rw [hq] at hw
    refine lv_if_eq (tgt := 24) hx hb dX7_isActive_17 (by decide) (fun c17 => ?_) (fun c17 => ?_)
    · refine lv_iconst (v := 0) hx hb dX7_isActive_24 (by decide) ?_
      exact r_iret cX hr hlocks hw ⟨by unfold q_isActive; rw [if_pos (if01n c5), hxc]; exact (if_neg (if01e c17)).symm, rfl⟩ dX7_isActive_25
    · refine lv_iconst (v := 1) hx hb dX7_isActive_20 (by decide) ?_
      refine lv_goto (tgt := 25) hx hb dX7_isActive_21 (by decide) ?_
      exact r_iret cX hr hlocks hw ⟨by unfold q_isActive; rw [if_pos (if01n c5), hxc]; exact (if_pos (if01n c17)).symm, rfl⟩ dX7_isActive_25
  · refine lv_iconst (v := (-1)) hx hb dX7_isActive_8 (by decide) ?_
    refine lv_goto (tgt := 25) hx hb dX7_isActive_9 (by decide) ?_
    exact r_iret cX hr hlocks hw ⟨by unfold q_isActive; rw [if_neg (fun h => if01e c5 h)], rfl⟩ dX7_isActive_25

set_option maxHeartbeats 4000000 in
set_option maxRecDepth 100000 in
theorem c_X7_entryPath (l : Launch) (G : gG) {M : HM} {b : Nat → Nat} {f sv sl fl T iF iN : Nat → Int32} {ct len at_ it : Int32} (hR0 : IsRf G M b f sv sl fl T iF iN ct len at_ it) {B : Nat} (hv : Inv B f) (x : Int32) : Ci l yX7_entryPath cX7_entryPath 2 .int (rd 2 0 0) G [.ref (b 0), .int x] M (fun r M' => r = q_entryPath x f ∧ M' = M) := by
  refine Ci.of (by decide) (Nat.le_of_ble_eq_true rfl) ?_
  intro p e s m args below meth c ls cX hw hlocks hr hl
  have hx := cX.1
  have hb := cX.2.1
  have hl : lv_has ls 2 [(0, .ref (b 0)), (1, .int x)] := hl
  have hR := hR0.rf
  refine lv_aload_n hx hb dX7_entryPath_0 rfl (lv_at hl 0 rfl) ?_
  refine lv_iload_n hx hb dX7_entryPath_1 rfl (lv_at hl 1 rfl) ?_
  refine r_Vi cX hw hR.1.1 rfl [.int x] (c_X7_isEntry l G hR.1 x) wM_X7_117 mw_X7_isEntry ⟨Nat.le_of_ble_eq_true rfl, Nat.le_of_ble_eq_true rfl⟩ rfl rfl hl.1 (Nat.le_of_ble_eq_true rfl) dX7_entryPath_2 ⟨Nat.le_of_ble_eq_true rfl, Nat.le_of_ble_eq_true rfl⟩ (fun r M1 H locs hp hw => ?_)
  obtain ⟨hr1, hq⟩ := hp
  subst hr1
  rw [hq] at hw
  refine lv_if_eq (tgt := 20) hx hb dX7_entryPath_5 (by decide) (fun c5 => ?_) (fun c5 => ?_)
  · refine lv_iconst (v := (-1)) hx hb dX7_entryPath_20 (by decide) ?_
    exact r_iret cX hr hlocks hw ⟨by unfold q_entryPath; rw [if_neg (fun h => if01e c5 h)], rfl⟩ dX7_entryPath_21
  · obtain ⟨k, hk, hkP, hxk, hxc⟩ := entry_ix hv (if01n c5)
    refine lv_aload_n hx hb dX7_entryPath_8 rfl (lv_at hl 0 rfl) ?_
    refine r_get cX inX7 hw hR.1.1 rfl 0 (by decide) wF_X7_7 rfl dX7_entryPath_9 ?_
    refine lv_bipush (v := 49) hx hb dX7_entryPath_12 (by decide) ?_
    refine lv_iload_n hx hb dX7_entryPath_14 rfl (lv_at hl 1 rfl) ?_
    refine lv_iadd hx hb dX7_entryPath_15 ?_
    refine r_iald (v := f (49 + k)) cX hw hR.1.2.1 (49 + k) (by rw [hxk]; exact nI_add 49 k) (by omega) (by decide) rfl dX7_entryPath_16 ?_
    refine lv_goto (tgt := 21) hx hb dX7_entryPath_17 (by decide) ?_
    exact r_iret cX hr hlocks hw ⟨by unfold q_entryPath; rw [if_pos (if01n c5), hxc], rfl⟩ dX7_entryPath_21

set_option maxHeartbeats 4000000 in
set_option maxRecDepth 100000 in
theorem c_X7_ageBit (l : Launch) (G : gG) {M : HM} {b : Nat → Nat} {f sv sl fl T iF iN : Nat → Int32} {ct len at_ it : Int32} (hR0 : IsRf G M b f sv sl fl T iF iN ct len at_ it) {B : Nat} (hv : Inv B f) (x : Int32) : Ci l yX7_ageBit cX7_ageBit 2 .int (rd 2 0 0) G [.ref (b 0), .int x] M (fun r M' => r = q_ageBit x f ∧ M' = M) := by
  refine Ci.of (by decide) (Nat.le_of_ble_eq_true rfl) ?_
  intro p e s m args below meth c ls cX hw hlocks hr hl
  have hx := cX.1
  have hb := cX.2.1
  have hl : lv_has ls 2 [(0, .ref (b 0)), (1, .int x)] := hl
  have hR := hR0.rf
  refine lv_aload_n hx hb dX7_ageBit_0 rfl (lv_at hl 0 rfl) ?_
  refine lv_iload_n hx hb dX7_ageBit_1 rfl (lv_at hl 1 rfl) ?_
  refine r_Vi cX hw hR.1.1 rfl [.int x] (c_X7_isEntry l G hR.1 x) wM_X7_117 mw_X7_isEntry ⟨Nat.le_of_ble_eq_true rfl, Nat.le_of_ble_eq_true rfl⟩ rfl rfl hl.1 (Nat.le_of_ble_eq_true rfl) dX7_ageBit_2 ⟨Nat.le_of_ble_eq_true rfl, Nat.le_of_ble_eq_true rfl⟩ (fun r M1 H locs hp hw => ?_)
  obtain ⟨hr1, hq⟩ := hp
  subst hr1
  rw [hq] at hw
  refine lv_if_ne (tgt := 12) hx hb dX7_ageBit_5 (by decide) (fun c5 => ?_) (fun c5 => ?_)
  · obtain ⟨k, hk, hkP, hxk, hxc⟩ := entry_ix hv (if01n c5)
    refine lv_aload_n hx hb dX7_ageBit_12 rfl (lv_at hl 0 rfl) ?_
    refine r_get cX inX7 hw hR.1.1 rfl 0 (by decide) wF_X7_7 rfl dX7_ageBit_13 ?_
    refine lv_bipush (v := 41) hx hb dX7_ageBit_16 (by decide) ?_
    refine lv_iload_n hx hb dX7_ageBit_18 rfl (lv_at hl 1 rfl) ?_
    refine lv_iadd hx hb dX7_ageBit_19 ?_
    refine r_iald (v := f (41 + k)) cX hw hR.1.2.1 (41 + k) (by rw [hxk]; exact nI_add 41 k) (by omega) (by decide) rfl dX7_ageBit_20 ?_
    refine lv_iconst (v := 1) hx hb dX7_ageBit_21 (by decide) ?_
    refine lv_icmp_ne (tgt := 37) hx hb dX7_ageBit_22 (by decide) (fun c22 => ?_) (fun c22 => ?_)
    · refine lv_bipush (v := (-9)) hx hb dX7_ageBit_37 (by decide) ?_
      exact r_iret cX hr hlocks hw ⟨by unfold q_ageBit; rw [if_pos (if01n c5), hxc]; rw [if_neg c22], rfl⟩ dX7_ageBit_39
    · refine lv_aload_n hx hb dX7_ageBit_25 rfl (lv_at hl 0 rfl) ?_
      refine r_get cX inX7 hw hR.1.1 rfl 0 (by decide) wF_X7_7 rfl dX7_ageBit_26 ?_
      refine lv_bipush (v := 65) hx hb dX7_ageBit_29 (by decide) ?_
      refine lv_iload_n hx hb dX7_ageBit_31 rfl (lv_at hl 1 rfl) ?_
      refine lv_iadd hx hb dX7_ageBit_32 ?_
      refine r_iald (v := f (65 + k)) cX hw hR.1.2.1 (65 + k) (by rw [hxk]; exact nI_add 65 k) (by omega) (by decide) rfl dX7_ageBit_33 ?_
      refine lv_goto (tgt := 39) hx hb dX7_ageBit_34 (by decide) ?_
      exact r_iret cX hr hlocks hw ⟨by unfold q_ageBit; rw [if_pos (if01n c5), hxc]; rw [if_pos c22], rfl⟩ dX7_ageBit_39
  · refine lv_iconst (v := (-1)) hx hb dX7_ageBit_8 (by decide) ?_
    refine lv_goto (tgt := 39) hx hb dX7_ageBit_9 (by decide) ?_
    exact r_iret cX hr hlocks hw ⟨by unfold q_ageBit; rw [if_neg (fun h => if01e c5 h)], rfl⟩ dX7_ageBit_39

set_option maxHeartbeats 4000000 in
set_option maxRecDepth 100000 in
theorem c_X7_idleTime (l : Launch) (G : gG) {M : HM} {b : Nat → Nat} {f sv sl fl T iF iN : Nat → Int32} {ct len at_ it : Int32} (hR0 : IsRf G M b f sv sl fl T iF iN ct len at_ it) {B : Nat} (hv : Inv B f) (x : Int32) : Ci l yX7_idleTime cX7_idleTime 2 .int (rd 2 0 0) G [.ref (b 0), .int x] M (fun r M' => r = q_idle x f ∧ M' = M) := by
  refine Ci.of (by decide) (Nat.le_of_ble_eq_true rfl) ?_
  intro p e s m args below meth c ls cX hw hlocks hr hl
  have hx := cX.1
  have hb := cX.2.1
  have hl : lv_has ls 2 [(0, .ref (b 0)), (1, .int x)] := hl
  have hR := hR0.rf
  refine lv_aload_n hx hb dX7_idleTime_0 rfl (lv_at hl 0 rfl) ?_
  refine lv_iload_n hx hb dX7_idleTime_1 rfl (lv_at hl 1 rfl) ?_
  refine r_Vi cX hw hR.1.1 rfl [.int x] (c_X7_isEntry l G hR.1 x) wM_X7_117 mw_X7_isEntry ⟨Nat.le_of_ble_eq_true rfl, Nat.le_of_ble_eq_true rfl⟩ rfl rfl hl.1 (Nat.le_of_ble_eq_true rfl) dX7_idleTime_2 ⟨Nat.le_of_ble_eq_true rfl, Nat.le_of_ble_eq_true rfl⟩ (fun r M1 H locs hp hw => ?_)
  obtain ⟨hr1, hq⟩ := hp
  subst hr1
  rw [hq] at hw
  refine lv_if_ne (tgt := 12) hx hb dX7_idleTime_5 (by decide) (fun c5 => ?_) (fun c5 => ?_)
  · obtain ⟨k, hk, hkP, hxk, hxc⟩ := entry_ix hv (if01n c5)
    refine lv_aload_n hx hb dX7_idleTime_12 rfl (lv_at hl 0 rfl) ?_
    refine r_get cX inX7 hw hR.1.1 rfl 0 (by decide) wF_X7_7 rfl dX7_idleTime_13 ?_
    refine lv_bipush (v := 49) hx hb dX7_idleTime_16 (by decide) ?_
    refine lv_iload_n hx hb dX7_idleTime_18 rfl (lv_at hl 1 rfl) ?_
    refine lv_iadd hx hb dX7_idleTime_19 ?_
    refine r_iald (v := f (49 + k)) cX hw hR.1.2.1 (49 + k) (by rw [hxk]; exact nI_add 49 k) (by omega) (by decide) rfl dX7_idleTime_20 ?_
    refine lv_bipush (v := (-9)) hx hb dX7_idleTime_21 (by decide) ?_
    refine lv_icmp_ne (tgt := 31) hx hb dX7_idleTime_23 (by decide) (fun c23 => ?_) (fun c23 => ?_)
    · refine lv_aload_n hx hb dX7_idleTime_31 rfl (lv_at hl 0 rfl) ?_
      refine r_get cX inX7 hw hR.1.1 rfl 0 (by decide) wF_X7_7 rfl dX7_idleTime_32 ?_
      refine lv_iconst (v := 0) hx hb dX7_idleTime_35 (by decide) ?_
      refine r_iald (v := f 0) cX hw hR.1.2.1 0 rfl (by decide) (by decide) rfl dX7_idleTime_36 ?_
      refine lv_aload_n hx hb dX7_idleTime_37 rfl (lv_at hl 0 rfl) ?_
      refine r_get cX inX7 hw hR.1.1 rfl 0 (by decide) wF_X7_7 rfl dX7_idleTime_38 ?_
      refine lv_bipush (v := 57) hx hb dX7_idleTime_41 (by decide) ?_
      refine lv_iload_n hx hb dX7_idleTime_43 rfl (lv_at hl 1 rfl) ?_
      refine lv_iadd hx hb dX7_idleTime_44 ?_
      refine r_iald (v := f (57 + k)) cX hw hR.1.2.1 (57 + k) (by rw [hxk]; exact nI_add 57 k) (by omega) (by decide) rfl dX7_idleTime_45 ?_
      refine lv_isub hx hb dX7_idleTime_46 ?_
      exact r_iret cX hr hlocks hw ⟨by unfold q_idle; rw [if_pos (if01n c5), hxc]; rw [if_neg c23], rfl⟩ dX7_idleTime_47
    · refine lv_bipush (v := (-9)) hx hb dX7_idleTime_26 (by decide) ?_
      refine lv_goto (tgt := 47) hx hb dX7_idleTime_28 (by decide) ?_
      exact r_iret cX hr hlocks hw ⟨by unfold q_idle; rw [if_pos (if01n c5), hxc]; rw [if_pos c23], rfl⟩ dX7_idleTime_47
  · refine lv_iconst (v := (-1)) hx hb dX7_idleTime_8 (by decide) ?_
    refine lv_goto (tgt := 47) hx hb dX7_idleTime_9 (by decide) ?_
    exact r_iret cX hr hlocks hw ⟨by unfold q_idle; rw [if_neg (fun h => if01e c5 h)], rfl⟩ dX7_idleTime_47

set_option maxHeartbeats 4000000 in
set_option maxRecDepth 100000 in
theorem c_X7_metric (l : Launch) (G : gG) {M : HM} {b : Nat → Nat} {f sv sl fl T iF iN : Nat → Int32} {ct len at_ it : Int32} (hR0 : IsRf G M b f sv sl fl T iF iN ct len at_ it) {B : Nat} (hv : Inv B f) (x : Int32) : Ci l yX7_metric cX7_metric 2 .int (rd 2 0 0) G [.ref (b 0), .int x] M (fun r M' => r = q_metric x f ∧ M' = M) := by
  refine Ci.of (by decide) (Nat.le_of_ble_eq_true rfl) ?_
  intro p e s m args below meth c ls cX hw hlocks hr hl
  have hx := cX.1
  have hb := cX.2.1
  have hl : lv_has ls 2 [(0, .ref (b 0)), (1, .int x)] := hl
  have hR := hR0.rf
  refine lv_aload_n hx hb dX7_metric_0 rfl (lv_at hl 0 rfl) ?_
  refine lv_iload_n hx hb dX7_metric_1 rfl (lv_at hl 1 rfl) ?_
  refine r_Vi cX hw hR.1.1 rfl [.int x] (c_X7_isPath l G hR.1 x) wM_X7_51 mw_X7_isPath ⟨Nat.le_of_ble_eq_true rfl, Nat.le_of_ble_eq_true rfl⟩ rfl rfl hl.1 (Nat.le_of_ble_eq_true rfl) dX7_metric_2 ⟨Nat.le_of_ble_eq_true rfl, Nat.le_of_ble_eq_true rfl⟩ (fun r M1 H locs hp hw => ?_)
  obtain ⟨hr1, hq⟩ := hp
  subst hr1
  rw [hq] at hw
  refine lv_if_eq (tgt := 16) hx hb dX7_metric_5 (by decide) (fun c5 => ?_) (fun c5 => ?_)
  · refine lv_iconst (v := (-1)) hx hb dX7_metric_16 (by decide) ?_
    exact r_iret cX hr hlocks hw ⟨by unfold q_metric; rw [if_neg (fun h => if01e c5 h)], rfl⟩ dX7_metric_17
  · obtain ⟨k, hk, hkP, hxk, hxc⟩ := path_ix hv (if01n c5)
    refine lv_aload_n hx hb dX7_metric_8 rfl (lv_at hl 0 rfl) ?_
    refine lv_iload_n hx hb dX7_metric_9 rfl (lv_at hl 1 rfl) ?_
    refine r_Vi cX hw hR.1.1 rfl [.int x] (c_X7_metricOf l G hR.1 x k hxk hk) wM_X7_72 mw_X7_metricOf ⟨Nat.le_of_ble_eq_true rfl, Nat.le_of_ble_eq_true rfl⟩ rfl rfl hl.1 (Nat.le_of_ble_eq_true rfl) dX7_metric_10 ⟨Nat.le_of_ble_eq_true rfl, Nat.le_of_ble_eq_true rfl⟩ (fun r M1 H locs hp hw => ?_)
    obtain ⟨hr1, hq⟩ := hp
    subst hr1
    rw [hq] at hw
    refine lv_goto (tgt := 17) hx hb dX7_metric_13 (by decide) ?_
    exact r_iret cX hr hlocks hw ⟨by unfold q_metric; rw [if_pos (if01n c5), hxc], rfl⟩ dX7_metric_17

set_option maxHeartbeats 4000000 in
set_option maxRecDepth 100000 in
theorem c_X7_busyTime (l : Launch) (G : gG) {M : HM} {b : Nat → Nat} {f sv sl fl T iF iN : Nat → Int32} {ct len at_ it : Int32} (hR0 : IsRf G M b f sv sl fl T iF iN ct len at_ it) {B : Nat} (hv : Inv B f) (x : Int32) : Ci l yX7_busyTime cX7_busyTime 3 .int (rd 2 0 0) G [.ref (b 0), .int x] M (fun r M' => r = q_busy x f ∧ M' = M) := by
  refine Ci.of (by decide) (Nat.le_of_ble_eq_true rfl) ?_
  intro p e s m args below meth c ls cX hw hlocks hr hl
  have hx := cX.1
  have hb := cX.2.1
  have hl : lv_has ls 3 [(0, .ref (b 0)), (1, .int x)] := hl
  have hR := hR0.rf
  refine lv_aload_n hx hb dX7_busyTime_0 rfl (lv_at hl 0 rfl) ?_
  refine lv_iload_n hx hb dX7_busyTime_1 rfl (lv_at hl 1 rfl) ?_
  refine r_Vi cX hw hR.1.1 rfl [.int x] (c_X7_isPath l G hR.1 x) wM_X7_51 mw_X7_isPath ⟨Nat.le_of_ble_eq_true rfl, Nat.le_of_ble_eq_true rfl⟩ rfl rfl hl.1 (Nat.le_of_ble_eq_true rfl) dX7_busyTime_2 ⟨Nat.le_of_ble_eq_true rfl, Nat.le_of_ble_eq_true rfl⟩ (fun r M1 H locs hp hw => ?_)
  obtain ⟨hr1, hq⟩ := hp
  subst hr1
  rw [hq] at hw
  refine lv_if_ne (tgt := 10) hx hb dX7_busyTime_5 (by decide) (fun c5 => ?_) (fun c5 => ?_)
  · obtain ⟨k, hk, hkP, hxk, hxc⟩ := path_ix hv (if01n c5)
    refine lv_aload_n hx hb dX7_busyTime_10 rfl (lv_at hl 0 rfl) ?_
    refine r_get cX inX7 hw hR.1.1 rfl 0 (by decide) wF_X7_7 rfl dX7_busyTime_11 ?_
    refine lv_bipush (v := 25) hx hb dX7_busyTime_14 (by decide) ?_
    refine lv_iload_n hx hb dX7_busyTime_16 rfl (lv_at hl 1 rfl) ?_
    refine lv_iadd hx hb dX7_busyTime_17 ?_
    refine r_iald (v := f (25 + k)) cX hw hR.1.2.1 (25 + k) (by rw [hxk]; exact nI_add 25 k) (by omega) (by decide) rfl dX7_busyTime_18 ?_
    refine lv_aload_n hx hb dX7_busyTime_19 rfl (lv_at hl 0 rfl) ?_
    refine r_get cX inX7 hw hR.1.1 rfl 0 (by decide) wF_X7_7 rfl dX7_busyTime_20 ?_
    refine lv_iconst (v := 0) hx hb dX7_busyTime_23 (by decide) ?_
    refine r_iald (v := f 0) cX hw hR.1.2.1 0 rfl (by decide) (by decide) rfl dX7_busyTime_24 ?_
    refine lv_isub hx hb dX7_busyTime_25 ?_
    refine lv_istore_n (lv' := [(2, .int ((f (25 + k)) - (f 0))), (0, .ref (b 0)), (1, .int x)]) hx hb dX7_busyTime_26 rfl hl (by decide) rfl (fun ls hl => ?_)
    refine lv_iload_n hx hb dX7_busyTime_27 rfl (lv_at hl 0 rfl) ?_
    refine lv_if_le (tgt := 35) hx hb dX7_busyTime_28 (by decide) (fun c28 => ?_) (fun c28 => ?_)
    · refine lv_iconst (v := 0) hx hb dX7_busyTime_35 (by decide) ?_
      exact r_iret cX hr hlocks hw ⟨by unfold q_busy; rw [if_pos (if01n c5), hxc]; exact (wt_le c28).symm, rfl⟩ dX7_busyTime_36
    · refine lv_iload_n hx hb dX7_busyTime_31 rfl (lv_at hl 0 rfl) ?_
      refine lv_goto (tgt := 36) hx hb dX7_busyTime_32 (by decide) ?_
      exact r_iret cX hr hlocks hw ⟨by unfold q_busy; rw [if_pos (if01n c5), hxc]; exact (wt_gt c28).symm, rfl⟩ dX7_busyTime_36
  · refine lv_iconst (v := (-1)) hx hb dX7_busyTime_8 (by decide) ?_
    exact r_iret cX hr hlocks hw ⟨by unfold q_busy; rw [if_neg (fun h => if01e c5 h)], rfl⟩ dX7_busyTime_9

set_option maxHeartbeats 4000000 in
set_option maxRecDepth 100000 in
theorem c_X7_latency (l : Launch) (G : gG) {M : HM} {b : Nat → Nat} {f sv sl fl T iF iN : Nat → Int32} {ct len at_ it : Int32} (hR0 : IsRf G M b f sv sl fl T iF iN ct len at_ it) {B : Nat} (hv : Inv B f) (x y : Int32) : Ci l yX7_latency cX7_latency 3 .int (rd 2 0 0) G [.ref (b 0), .int x, .int y] M (fun r M' => r = q_latency x y f ∧ M' = M) := by
  refine Ci.of (by decide) (Nat.le_of_ble_eq_true rfl) ?_
  intro p e s m args below meth c ls cX hw hlocks hr hl
  have hx := cX.1
  have hb := cX.2.1
  have hl : lv_has ls 3 [(0, .ref (b 0)), (1, .int x), (2, .int y)] := hl
  have hR := hR0.rf
  refine lv_aload_n hx hb dX7_latency_0 rfl (lv_at hl 0 rfl) ?_
  refine lv_iload_n hx hb dX7_latency_1 rfl (lv_at hl 1 rfl) ?_
  refine r_Vi cX hw hR.1.1 rfl [.int x] (c_X7_isPath l G hR.1 x) wM_X7_51 mw_X7_isPath ⟨Nat.le_of_ble_eq_true rfl, Nat.le_of_ble_eq_true rfl⟩ rfl rfl hl.1 (Nat.le_of_ble_eq_true rfl) dX7_latency_2 ⟨Nat.le_of_ble_eq_true rfl, Nat.le_of_ble_eq_true rfl⟩ (fun r M1 H locs hp hw => ?_)
  obtain ⟨hr1, hq⟩ := hp
  subst hr1
  rw [hq] at hw
  refine lv_if_eq (tgt := 24) hx hb dX7_latency_5 (by decide) (fun c5 => ?_) (fun c5 => ?_)
  · refine lv_iconst (v := (-1)) hx hb dX7_latency_24 (by decide) ?_
    exact r_iret cX hr hlocks hw ⟨by unfold q_latency; rw [if_neg (fun h => if01e c5 h.1)], rfl⟩ dX7_latency_25
  · obtain ⟨k, hk, hkP, hxk, hxc⟩ := path_ix hv (if01n c5)
    refine lv_iload_n hx hb dX7_latency_8 rfl (lv_at hl 2 rfl) ?_
    refine r_Si cX hw [.int y] (c_X7_isSize l G y) wM_X7_111 mw_X7_isSize ⟨Nat.le_of_ble_eq_true rfl, Nat.le_of_ble_eq_true rfl⟩ rfl rfl hl.1 (Nat.le_of_ble_eq_true rfl) dX7_latency_9 ⟨Nat.le_of_ble_eq_true rfl, Nat.le_of_ble_eq_true rfl⟩ (fun r M1 H locs hp hw => ?_)
    obtain ⟨hr1, hq⟩ := hp
    subst hr1
    rw [hq] at hw
    refine lv_if_eq (tgt := 24) hx hb dX7_latency_12 (by decide) (fun c12 => ?_) (fun c12 => ?_)
    · refine lv_iconst (v := (-1)) hx hb dX7_latency_24 (by decide) ?_
      exact r_iret cX hr hlocks hw ⟨by unfold q_latency; rw [if_neg (fun h => if01e c12 h.2)], rfl⟩ dX7_latency_25
    · refine lv_aload_n hx hb dX7_latency_15 rfl (lv_at hl 0 rfl) ?_
      refine lv_iload_n hx hb dX7_latency_16 rfl (lv_at hl 1 rfl) ?_
      refine lv_iload_n hx hb dX7_latency_17 rfl (lv_at hl 2 rfl) ?_
      refine r_Vi cX hw hR.1.1 rfl [.int x, .int y] (c_X7_latencyOf l G hR.1 hv x k hxk hk y) wM_X7_123 mw_X7_latencyOf ⟨Nat.le_of_ble_eq_true rfl, Nat.le_of_ble_eq_true rfl⟩ rfl rfl hl.1 (Nat.le_of_ble_eq_true rfl) dX7_latency_18 ⟨Nat.le_of_ble_eq_true rfl, Nat.le_of_ble_eq_true rfl⟩ (fun r M1 H locs hp hw => ?_)
      obtain ⟨hr1, hq⟩ := hp
      subst hr1
      rw [hq] at hw
      refine lv_goto (tgt := 25) hx hb dX7_latency_21 (by decide) ?_
      exact r_iret cX hr hlocks hw ⟨by unfold q_latency; rw [if_pos ⟨(if01n c5), (if01n c12)⟩, hxc], rfl⟩ dX7_latency_25

set_option maxHeartbeats 4000000 in
set_option maxRecDepth 100000 in
theorem c_X7_nextPath (l : Launch) (G : gG) {M : HM} {b : Nat → Nat} {f sv sl fl T iF iN : Nat → Int32} {ct len at_ it : Int32} (hR0 : IsRf G M b f sv sl fl T iF iN ct len at_ it) {B : Nat} (hv : Inv B f) (x : Int32) : Ci l yX7_nextPath cX7_nextPath 2 .int (rd 3 0 0) G [.ref (b 0), .int x] M (fun r M' => r = q_nextPath x f ∧ M' = M) := by
  refine Ci.of (by decide) (Nat.le_of_ble_eq_true rfl) ?_
  intro p e s m args below meth c ls cX hw hlocks hr hl
  have hx := cX.1
  have hb := cX.2.1
  have hl : lv_has ls 2 [(0, .ref (b 0)), (1, .int x)] := hl
  have hR := hR0.rf
  refine lv_iload_n hx hb dX7_nextPath_0 rfl (lv_at hl 1 rfl) ?_
  refine r_Si cX hw [.int x] (c_X7_isFlow l G x) wM_X7_108 mw_X7_isFlow ⟨Nat.le_of_ble_eq_true rfl, Nat.le_of_ble_eq_true rfl⟩ rfl rfl hl.1 (Nat.le_of_ble_eq_true rfl) dX7_nextPath_1 ⟨Nat.le_of_ble_eq_true rfl, Nat.le_of_ble_eq_true rfl⟩ (fun r M1 H locs hp hw => ?_)
  obtain ⟨hr1, hq⟩ := hp
  subst hr1
  rw [hq] at hw
  refine lv_if_eq (tgt := 15) hx hb dX7_nextPath_4 (by decide) (fun c4 => ?_) (fun c4 => ?_)
  · refine lv_iconst (v := (-1)) hx hb dX7_nextPath_15 (by decide) ?_
    exact r_iret cX hr hlocks hw ⟨by unfold q_nextPath; rw [if_neg (fun h => if01e c4 h)], rfl⟩ dX7_nextPath_16
  · refine lv_aload_n hx hb dX7_nextPath_7 rfl (lv_at hl 0 rfl) ?_
    refine lv_iload_n hx hb dX7_nextPath_8 rfl (lv_at hl 1 rfl) ?_
    obtain ⟨k, hk, rfl, hxc⟩ := lit_ix 15 (by decide) (if01n c4)
    refine r_Vi cX hw hR.1.1 rfl [.int (nI k)] (c_X7_choose l G hR.1 hv k hk) wM_X7_96 mw_X7_choose ⟨Nat.le_of_ble_eq_true rfl, Nat.le_of_ble_eq_true rfl⟩ rfl rfl hl.1 (Nat.le_of_ble_eq_true rfl) dX7_nextPath_9 ⟨Nat.le_of_ble_eq_true rfl, Nat.le_of_ble_eq_true rfl⟩ (fun r M1 H locs hp hw => ?_)
    obtain ⟨hr1, hq⟩ := hp
    subst hr1
    rw [hq] at hw
    refine lv_goto (tgt := 16) hx hb dX7_nextPath_12 (by decide) ?_
    exact r_iret cX hr hlocks hw ⟨by unfold q_nextPath; rw [if_pos (if01n c4)]; rw [hxc], rfl⟩ dX7_nextPath_16

set_option maxHeartbeats 4000000 in
set_option maxRecDepth 100000 in
theorem c_X7_activeEntries (l : Launch) (G : gG) {M : HM} {b : Nat → Nat} {f sv sl fl T iF iN : Nat → Int32} {ct len at_ it : Int32} (hR0 : IsRf G M b f sv sl fl T iF iN ct len at_ it) {B : Nat} (hv : Inv B f) : Ci l yX7_activeEntries cX7_activeEntries 3 .int (rd 1 0 0) G [.ref (b 0)] M (fun r M' => r = acN f (nE f) ∧ M' = M) := by
  obtain ⟨e1, e2, e3⟩ := hv.E
  refine Ci.of (by decide) (Nat.le_of_ble_eq_true rfl) ?_
  intro p e s m args below meth c ls cX hw hlocks hr hl
  have hx := cX.1
  have hb := cX.2.1
  have hl : lv_has ls 3 [(0, .ref (b 0))] := hl
  have hR := hR0.rf
  refine lv_iconst (v := 0) hx hb dX7_activeEntries_0 (by decide) ?_
  refine lv_istore_n (lv' := [(1, .int 0), (0, .ref (b 0))]) hx hb dX7_activeEntries_1 rfl hl (by decide) rfl (fun ls hl => ?_)
  refine lv_iconst (v := 0) hx hb dX7_activeEntries_2 (by decide) ?_
  refine lv_istore_n (lv' := [(2, .int 0), (1, .int 0), (0, .ref (b 0))]) hx hb dX7_activeEntries_3 rfl hl (by decide) rfl (fun ls hl => ?_)
  have lp4 : ∀ (nn i : Nat), i ≤ nE f → nE f < i + nn → ∀ (x1 : Int32) (H : Heap) (locs : List Loc) (ls : Array Slot), Wd G (dm M s.heap.size) s.heap M H locs → x1 = acN f i → lv_has ls 3 [(2, .int (nI i)), (1, .int x1), (0, .ref (b 0))] → W p l e (rd 1 0 0) s m args below meth c H locs 0 0 (MQ below (QI G M s.heap.size (fun r M' => r = acN f (nE f) ∧ M' = M)) args s 0 0 (dm M s.heap.size)) (F0 m 4 ls []) := by
    intro nn
    induction nn with
    | zero =>
      intro i h1 h2
      exact absurd h2 (by omega)
    | succ nn ih =>
      intro i hi hin x1 H locs ls hw hx1 hl
      refine lv_iload_n hx hb dX7_activeEntries_4 rfl (lv_at hl 0 rfl) ?_
      refine lv_aload_n hx hb dX7_activeEntries_5 rfl (lv_at hl 2 rfl) ?_
      refine r_get cX inX7 hw hR.1.1 rfl 0 (by decide) wF_X7_7 rfl dX7_activeEntries_6 ?_
      refine lv_iconst (v := 2) hx hb dX7_activeEntries_9 (by decide) ?_
      refine r_iald (v := f 2) cX hw hR.1.2.1 2 rfl (by decide) (by decide) rfl dX7_activeEntries_10 ?_
      refine lv_icmp_ge (tgt := 36) hx hb dX7_activeEntries_11 (by decide) (fun c11 => ?_) (fun c11 => ?_)
      · obtain rfl : i = nE f := Nat.le_antisymm hi (ix_ge (b := nE f) (by omega) (by omega) (by rw [← e3]; exact c11))
        refine lv_iload_n hx hb dX7_activeEntries_36 rfl (lv_at hl 1 rfl) ?_
        exact r_iret cX hr hlocks hw ⟨hx1, rfl⟩ dX7_activeEntries_37
      · have hlt : i < nE f := ix_lt (b := nE f) (by omega) (by rw [← e3]; exact c11)
        refine lv_iload_n hx hb dX7_activeEntries_14 rfl (lv_at hl 1 rfl) ?_
        refine lv_aload_n hx hb dX7_activeEntries_15 rfl (lv_at hl 2 rfl) ?_
        refine lv_iload_n hx hb dX7_activeEntries_16 rfl (lv_at hl 0 rfl) ?_
        refine r_Vi cX hw hR.1.1 rfl [.int (nI i)] (c_X7_isLive l G hR.1 (nI i) i rfl (by omega)) wM_X7_81 mw_X7_isLive ⟨Nat.le_of_ble_eq_true rfl, Nat.le_of_ble_eq_true rfl⟩ rfl rfl hl.1 (Nat.le_of_ble_eq_true rfl) dX7_activeEntries_17 ⟨Nat.le_of_ble_eq_true rfl, Nat.le_of_ble_eq_true rfl⟩ (fun r M1 H locs hp hw => ?_)
        obtain ⟨hr1, hq⟩ := hp
        subst hr1
        rw [hq] at hw
        refine lv_if_eq (tgt := 27) hx hb dX7_activeEntries_20 (by decide) (fun c20 => ?_) (fun c20 => ?_)
        · refine lv_iconst (v := 0) hx hb dX7_activeEntries_27 (by decide) ?_
          refine lv_iadd hx hb dX7_activeEntries_28 ?_
          refine lv_istore_n (lv' := [(1, .int (x1 + 0)), (2, .int (nI i)), (0, .ref (b 0))]) hx hb dX7_activeEntries_29 rfl hl (by decide) rfl (fun ls hl => ?_)
          refine lv_iinc (v := (nI (i + 1))) (lv' := [(2, .int (nI (i + 1))), (1, .int (x1 + 0)), (0, .ref (b 0))]) hx hb dX7_activeEntries_30 hl (k := 1) rfl (nI_1 i) (by decide) rfl (fun ls hl => ?_)
          refine lv_goto (tgt := 4) hx hb dX7_activeEntries_33 (by decide) ?_
          exact ih (i + 1) (by omega) (by omega) (x1 + 0) _ _ _ hw (by rw [hx1]; show _ = (if _ then _ else _); rw [if_neg (if01e c20)]; exact Int32.add_zero _) (lv_sub hl [0, 1, 2] rfl)
        · refine lv_iconst (v := 1) hx hb dX7_activeEntries_23 (by decide) ?_
          refine lv_goto (tgt := 28) hx hb dX7_activeEntries_24 (by decide) ?_
          refine lv_iadd hx hb dX7_activeEntries_28 ?_
          refine lv_istore_n (lv' := [(1, .int (x1 + 1)), (2, .int (nI i)), (0, .ref (b 0))]) hx hb dX7_activeEntries_29 rfl hl (by decide) rfl (fun ls hl => ?_)
          refine lv_iinc (v := (nI (i + 1))) (lv' := [(2, .int (nI (i + 1))), (1, .int (x1 + 1)), (0, .ref (b 0))]) hx hb dX7_activeEntries_30 hl (k := 1) rfl (nI_1 i) (by decide) rfl (fun ls hl => ?_)
          refine lv_goto (tgt := 4) hx hb dX7_activeEntries_33 (by decide) ?_
          exact ih (i + 1) (by omega) (by omega) (x1 + 1) _ _ _ hw (by rw [hx1]; show _ = (if _ then _ else _); rw [if_pos (if01n c20)]) (lv_sub hl [0, 1, 2] rfl)
  exact lp4 (nE f + 1) 0 (by omega) (by omega) 0 _ _ _ hw rfl (lv_sub hl [0, 1, 2] rfl)

set_option maxHeartbeats 4000000 in
set_option maxRecDepth 100000 in
theorem c_X7_safeGap (l : Launch) (G : gG) {M : HM} {b : Nat → Nat} {f sv sl fl T iF iN : Nat → Int32} {ct len at_ it : Int32} (hR0 : IsRf G M b f sv sl fl T iF iN ct len at_ it) (x : Int32) {B : Nat} (hv : Inv B f) : Ci l yX7_safeGap cX7_safeGap 6 .int (rd 2 0 0) G [.ref (b 0), .int x] M (fun r M' => r = q_safeGap x f ∧ M' = M) := by
  obtain ⟨e1, e2, e3⟩ := hv.P
  refine Ci.of (by decide) (Nat.le_of_ble_eq_true rfl) ?_
  intro p e s m args below meth c ls cX hw hlocks hr hl
  have hx := cX.1
  have hb := cX.2.1
  have hl : lv_has ls 6 [(0, .ref (b 0)), (1, .int x)] := hl
  have hR := hR0.rf
  refine lv_iload_n hx hb dX7_safeGap_0 rfl (lv_at hl 1 rfl) ?_
  refine r_Si cX hw [.int x] (c_X7_isSize l G x) wM_X7_111 mw_X7_isSize ⟨Nat.le_of_ble_eq_true rfl, Nat.le_of_ble_eq_true rfl⟩ rfl rfl hl.1 (Nat.le_of_ble_eq_true rfl) dX7_safeGap_1 ⟨Nat.le_of_ble_eq_true rfl, Nat.le_of_ble_eq_true rfl⟩ (fun r M1 H locs hp hw => ?_)
  obtain ⟨hr1, hq⟩ := hp
  subst hr1
  rw [hq] at hw
  refine lv_if_ne (tgt := 9) hx hb dX7_safeGap_4 (by decide) (fun c4 => ?_) (fun c4 => ?_)
  · refine lv_aload_n hx hb dX7_safeGap_9 rfl (lv_at hl 0 rfl) ?_
    refine lv_iconst (v := 0) hx hb dX7_safeGap_10 (by decide) ?_
    refine lv_iload_n hx hb dX7_safeGap_11 rfl (lv_at hl 1 rfl) ?_
    refine r_Vi cX hw hR.1.1 rfl [.int 0, .int x] (c_X7_latencyOf l G hR.1 hv 0 0 rfl (by omega) x) wM_X7_123 mw_X7_latencyOf ⟨Nat.le_of_ble_eq_true rfl, Nat.le_of_ble_eq_true rfl⟩ rfl rfl hl.1 (Nat.le_of_ble_eq_true rfl) dX7_safeGap_12 ⟨Nat.le_of_ble_eq_true rfl, Nat.le_of_ble_eq_true rfl⟩ (fun r M1 H locs hp hw => ?_)
    obtain ⟨hr1, hq⟩ := hp
    subst hr1
    rw [hq] at hw
    refine lv_istore_n (lv' := [(2, .int (laF f x 0)), (0, .ref (b 0)), (1, .int x)]) hx hb dX7_safeGap_15 rfl hl (by decide) rfl (fun ls hl => ?_)
    refine lv_iload_n hx hb dX7_safeGap_16 rfl (lv_at hl 0 rfl) ?_
    refine lv_istore_n (lv' := [(3, .int (laF f x 0)), (2, .int (laF f x 0)), (0, .ref (b 0)), (1, .int x)]) hx hb dX7_safeGap_17 rfl hl (by decide) rfl (fun ls hl => ?_)
    refine lv_iconst (v := 1) hx hb dX7_safeGap_18 (by decide) ?_
    refine lv_istore (lv' := [(4, .int 1), (3, .int (laF f x 0)), (2, .int (laF f x 0)), (0, .ref (b 0)), (1, .int x)]) hx hb dX7_safeGap_19 hl (by decide) rfl (fun ls hl => ?_)
    have lp21 : ∀ (nn i : Nat), i ≤ nP f - 1 → nP f - 1 < i + nn → ∀ (mn : Int32) (mx : Int32) (H : Heap) (locs : List Loc) (ls : Array Slot), Wd G (dm M s.heap.size) s.heap M H locs → mn = mnN (laF f x) i → mx = mxN (laF f x) i → lv_has ls 6 [(4, .int (nI (i + 1))), (2, .int mn), (3, .int mx), (1, .int x), (0, .ref (b 0))] → W p l e (rd 2 0 0) s m args below meth c H locs 0 0 (MQ below (QI G M s.heap.size (fun r M' => r = q_safeGap x f ∧ M' = M)) args s 0 0 (dm M s.heap.size)) (F0 m 21 ls []) := by
      intro nn
      induction nn with
      | zero =>
        intro i h1 h2
        exact absurd h2 (by omega)
      | succ nn ih =>
        intro i hi hin mn mx H locs ls hw hmn hmx hl
        refine lv_iload hx hb dX7_safeGap_21 (lv_at hl 0 rfl) ?_
        refine lv_aload_n hx hb dX7_safeGap_23 rfl (lv_at hl 4 rfl) ?_
        refine r_get cX inX7 hw hR.1.1 rfl 0 (by decide) wF_X7_7 rfl dX7_safeGap_24 ?_
        refine lv_iconst (v := 1) hx hb dX7_safeGap_27 (by decide) ?_
        refine r_iald (v := f 1) cX hw hR.1.2.1 1 rfl (by decide) (by decide) rfl dX7_safeGap_28 ?_
        refine lv_icmp_ge (tgt := 73) hx hb dX7_safeGap_29 (by decide) (fun c29 => ?_) (fun c29 => ?_)
        · obtain rfl : i = nP f - 1 := Nat.le_antisymm hi (by have := ix_ge (a := i + 1) (b := nP f) (by omega) (by omega) (by rw [← e3]; exact c29); omega)
          refine lv_iload_n hx hb dX7_safeGap_73 rfl (lv_at hl 2 rfl) ?_
          refine lv_iload_n hx hb dX7_safeGap_74 rfl (lv_at hl 1 rfl) ?_
          refine lv_isub hx hb dX7_safeGap_75 ?_
          exact r_iret cX hr hlocks hw ⟨by unfold q_safeGap; rw [if_pos (if01n c4), hmn, hmx], rfl⟩ dX7_safeGap_76
        · have hlt : i + 1 < nP f := ix_lt (by omega) (by rw [← e3]; exact c29)
          refine lv_aload_n hx hb dX7_safeGap_32 rfl (lv_at hl 4 rfl) ?_
          refine lv_iload hx hb dX7_safeGap_33 (lv_at hl 0 rfl) ?_
          refine lv_iload_n hx hb dX7_safeGap_35 rfl (lv_at hl 3 rfl) ?_
          refine r_Vi cX hw hR.1.1 rfl [.int (nI (i + 1)), .int x] (c_X7_latencyOf l G hR.1 hv (nI (i + 1)) (i + 1) rfl (by omega) x) wM_X7_123 mw_X7_latencyOf ⟨Nat.le_of_ble_eq_true rfl, Nat.le_of_ble_eq_true rfl⟩ rfl rfl hl.1 (Nat.le_of_ble_eq_true rfl) dX7_safeGap_36 ⟨Nat.le_of_ble_eq_true rfl, Nat.le_of_ble_eq_true rfl⟩ (fun r M1 H locs hp hw => ?_)
          obtain ⟨hr1, hq⟩ := hp
          subst hr1
          rw [hq] at hw
          refine lv_istore (lv' := [(5, .int (laF f x (i + 1))), (4, .int (nI (i + 1))), (2, .int mn), (3, .int mx), (1, .int x), (0, .ref (b 0))]) hx hb dX7_safeGap_39 hl (by decide) rfl (fun ls hl => ?_)
          refine lv_iload hx hb dX7_safeGap_41 (lv_at hl 0 rfl) ?_
          refine lv_iload_n hx hb dX7_safeGap_43 rfl (lv_at hl 2 rfl) ?_
          refine lv_icmp_ge (tgt := 52) hx hb dX7_safeGap_44 (by decide) (fun c44 => ?_) (fun c44 => ?_)
          · refine lv_iload_n hx hb dX7_safeGap_52 rfl (lv_at hl 2 rfl) ?_
            refine lv_istore_n (lv' := [(2, .int mn), (5, .int (laF f x (i + 1))), (4, .int (nI (i + 1))), (3, .int mx), (1, .int x), (0, .ref (b 0))]) hx hb dX7_safeGap_53 rfl hl (by decide) rfl (fun ls hl => ?_)
            refine lv_iload hx hb dX7_safeGap_54 (lv_at hl 1 rfl) ?_
            refine lv_iload_n hx hb dX7_safeGap_56 rfl (lv_at hl 3 rfl) ?_
            refine lv_icmp_le (tgt := 65) hx hb dX7_safeGap_57 (by decide) (fun c57 => ?_) (fun c57 => ?_)
            · refine lv_iload_n hx hb dX7_safeGap_65 rfl (lv_at hl 3 rfl) ?_
              refine lv_istore_n (lv' := [(3, .int mx), (2, .int mn), (5, .int (laF f x (i + 1))), (4, .int (nI (i + 1))), (1, .int x), (0, .ref (b 0))]) hx hb dX7_safeGap_66 rfl hl (by decide) rfl (fun ls hl => ?_)
              refine lv_iinc (v := (nI ((i + 1) + 1))) (lv' := [(4, .int (nI ((i + 1) + 1))), (3, .int mx), (2, .int mn), (5, .int (laF f x (i + 1))), (1, .int x), (0, .ref (b 0))]) hx hb dX7_safeGap_67 hl (k := 3) rfl (nI_1 (i + 1)) (by decide) rfl (fun ls hl => ?_)
              refine lv_goto (tgt := 21) hx hb dX7_safeGap_70 (by decide) ?_
              exact ih (i + 1) (by omega) (by omega) mn mx _ _ _ hw (by show _ = (if _ then _ else _); rw [← hmn, if_neg (Int32.not_lt.mpr c44)]) (by show _ = (if _ then _ else _); rw [← hmx, if_neg (Int32.not_lt.mpr c57)]) (lv_sub hl [0, 2, 1, 4, 5] rfl)
            · refine lv_iload hx hb dX7_safeGap_60 (lv_at hl 1 rfl) ?_
              refine lv_goto (tgt := 66) hx hb dX7_safeGap_62 (by decide) ?_
              refine lv_istore_n (lv' := [(3, .int (laF f x (i + 1))), (2, .int mn), (5, .int (laF f x (i + 1))), (4, .int (nI (i + 1))), (1, .int x), (0, .ref (b 0))]) hx hb dX7_safeGap_66 rfl hl (by decide) rfl (fun ls hl => ?_)
              refine lv_iinc (v := (nI ((i + 1) + 1))) (lv' := [(4, .int (nI ((i + 1) + 1))), (3, .int (laF f x (i + 1))), (2, .int mn), (5, .int (laF f x (i + 1))), (1, .int x), (0, .ref (b 0))]) hx hb dX7_safeGap_67 hl (k := 3) rfl (nI_1 (i + 1)) (by decide) rfl (fun ls hl => ?_)
              refine lv_goto (tgt := 21) hx hb dX7_safeGap_70 (by decide) ?_
              exact ih (i + 1) (by omega) (by omega) mn (laF f x (i + 1)) _ _ _ hw (by show _ = (if _ then _ else _); rw [← hmn, if_neg (Int32.not_lt.mpr c44)]) (by show _ = (if _ then _ else _); rw [← hmx, if_pos (Int32.not_le.mp c57)]) (lv_sub hl [0, 2, 1, 4, 5] rfl)
          · refine lv_iload hx hb dX7_safeGap_47 (lv_at hl 0 rfl) ?_
            refine lv_goto (tgt := 53) hx hb dX7_safeGap_49 (by decide) ?_
            refine lv_istore_n (lv' := [(2, .int (laF f x (i + 1))), (5, .int (laF f x (i + 1))), (4, .int (nI (i + 1))), (3, .int mx), (1, .int x), (0, .ref (b 0))]) hx hb dX7_safeGap_53 rfl hl (by decide) rfl (fun ls hl => ?_)
            refine lv_iload hx hb dX7_safeGap_54 (lv_at hl 1 rfl) ?_
            refine lv_iload_n hx hb dX7_safeGap_56 rfl (lv_at hl 3 rfl) ?_
            refine lv_icmp_le (tgt := 65) hx hb dX7_safeGap_57 (by decide) (fun c57 => ?_) (fun c57 => ?_)
            · refine lv_iload_n hx hb dX7_safeGap_65 rfl (lv_at hl 3 rfl) ?_
              refine lv_istore_n (lv' := [(3, .int mx), (2, .int (laF f x (i + 1))), (5, .int (laF f x (i + 1))), (4, .int (nI (i + 1))), (1, .int x), (0, .ref (b 0))]) hx hb dX7_safeGap_66 rfl hl (by decide) rfl (fun ls hl => ?_)
              refine lv_iinc (v := (nI ((i + 1) + 1))) (lv' := [(4, .int (nI ((i + 1) + 1))), (3, .int mx), (2, .int (laF f x (i + 1))), (5, .int (laF f x (i + 1))), (1, .int x), (0, .ref (b 0))]) hx hb dX7_safeGap_67 hl (k := 3) rfl (nI_1 (i + 1)) (by decide) rfl (fun ls hl => ?_)
              refine lv_goto (tgt := 21) hx hb dX7_safeGap_70 (by decide) ?_
              exact ih (i + 1) (by omega) (by omega) (laF f x (i + 1)) mx _ _ _ hw (by show _ = (if _ then _ else _); rw [← hmn, if_pos (Int32.not_le.mp c44)]) (by show _ = (if _ then _ else _); rw [← hmx, if_neg (Int32.not_lt.mpr c57)]) (lv_sub hl [0, 2, 1, 4, 5] rfl)
            · refine lv_iload hx hb dX7_safeGap_60 (lv_at hl 1 rfl) ?_
              refine lv_goto (tgt := 66) hx hb dX7_safeGap_62 (by decide) ?_
              refine lv_istore_n (lv' := [(3, .int (laF f x (i + 1))), (2, .int (laF f x (i + 1))), (5, .int (laF f x (i + 1))), (4, .int (nI (i + 1))), (1, .int x), (0, .ref (b 0))]) hx hb dX7_safeGap_66 rfl hl (by decide) rfl (fun ls hl => ?_)
              refine lv_iinc (v := (nI ((i + 1) + 1))) (lv' := [(4, .int (nI ((i + 1) + 1))), (3, .int (laF f x (i + 1))), (2, .int (laF f x (i + 1))), (5, .int (laF f x (i + 1))), (1, .int x), (0, .ref (b 0))]) hx hb dX7_safeGap_67 hl (k := 3) rfl (nI_1 (i + 1)) (by decide) rfl (fun ls hl => ?_)
              refine lv_goto (tgt := 21) hx hb dX7_safeGap_70 (by decide) ?_
              exact ih (i + 1) (by omega) (by omega) (laF f x (i + 1)) (laF f x (i + 1)) _ _ _ hw (by show _ = (if _ then _ else _); rw [← hmn, if_pos (Int32.not_le.mp c44)]) (by show _ = (if _ then _ else _); rw [← hmx, if_pos (Int32.not_le.mp c57)]) (lv_sub hl [0, 2, 1, 4, 5] rfl)
    exact lp21 (nP f - 1 + 1) 0 (by omega) (by omega) (laF f x 0) (laF f x 0) _ _ _ hw rfl rfl (lv_sub hl [0, 2, 1, 4, 3] rfl)
  · refine lv_iconst (v := (-1)) hx hb dX7_safeGap_7 (by decide) ?_
    exact r_iret cX hr hlocks hw ⟨by unfold q_safeGap; rw [if_neg (if01e c4)], rfl⟩ dX7_safeGap_8

set_option maxHeartbeats 4000000 in
set_option maxRecDepth 100000 in
theorem c_X7_imbalance (l : Launch) (G : gG) {M : HM} {b : Nat → Nat} {f sv sl fl T iF iN : Nat → Int32} {ct len at_ it : Int32} (hR0 : IsRf G M b f sv sl fl T iF iN ct len at_ it) {B : Nat} (hv : Inv B f) : Ci l yX7_imbalance cX7_imbalance 5 .int (rd 1 0 0) G [.ref (b 0)] M (fun r M' => r = q_imbalance f ∧ M' = M) := by
  obtain ⟨e1, e2, e3⟩ := hv.P
  refine Ci.of (by decide) (Nat.le_of_ble_eq_true rfl) ?_
  intro p e s m args below meth c ls cX hw hlocks hr hl
  have hx := cX.1
  have hb := cX.2.1
  have hl : lv_has ls 5 [(0, .ref (b 0))] := hl
  have hR := hR0.rf
  refine lv_aload_n hx hb dX7_imbalance_0 rfl (lv_at hl 0 rfl) ?_
  refine r_get cX inX7 hw hR.1.1 rfl 0 (by decide) wF_X7_7 rfl dX7_imbalance_1 ?_
  refine lv_bipush (v := 33) hx hb dX7_imbalance_4 (by decide) ?_
  refine r_iald (v := f 33) cX hw hR.1.2.1 33 rfl (by decide) (by decide) rfl dX7_imbalance_6 ?_
  refine lv_istore_n (lv' := [(1, .int (f 33)), (0, .ref (b 0))]) hx hb dX7_imbalance_7 rfl hl (by decide) rfl (fun ls hl => ?_)
  refine lv_iload_n hx hb dX7_imbalance_8 rfl (lv_at hl 0 rfl) ?_
  refine lv_istore_n (lv' := [(2, .int (f 33)), (1, .int (f 33)), (0, .ref (b 0))]) hx hb dX7_imbalance_9 rfl hl (by decide) rfl (fun ls hl => ?_)
  refine lv_iconst (v := 1) hx hb dX7_imbalance_10 (by decide) ?_
  refine lv_istore_n (lv' := [(3, .int 1), (2, .int (f 33)), (1, .int (f 33)), (0, .ref (b 0))]) hx hb dX7_imbalance_11 rfl hl (by decide) rfl (fun ls hl => ?_)
  have lp12 : ∀ (nn i : Nat), i ≤ nP f - 1 → nP f - 1 < i + nn → ∀ (mn : Int32) (mx : Int32) (H : Heap) (locs : List Loc) (ls : Array Slot), Wd G (dm M s.heap.size) s.heap M H locs → mn = mnN (fun j => f (33 + j)) i → mx = mxN (fun j => f (33 + j)) i → lv_has ls 5 [(3, .int (nI (i + 1))), (1, .int mn), (2, .int mx), (0, .ref (b 0))] → W p l e (rd 1 0 0) s m args below meth c H locs 0 0 (MQ below (QI G M s.heap.size (fun r M' => r = q_imbalance f ∧ M' = M)) args s 0 0 (dm M s.heap.size)) (F0 m 12 ls []) := by
    intro nn
    induction nn with
    | zero =>
      intro i h1 h2
      exact absurd h2 (by omega)
    | succ nn ih =>
      intro i hi hin mn mx H locs ls hw hmn hmx hl
      refine lv_iload_n hx hb dX7_imbalance_12 rfl (lv_at hl 0 rfl) ?_
      refine lv_aload_n hx hb dX7_imbalance_13 rfl (lv_at hl 3 rfl) ?_
      refine r_get cX inX7 hw hR.1.1 rfl 0 (by decide) wF_X7_7 rfl dX7_imbalance_14 ?_
      refine lv_iconst (v := 1) hx hb dX7_imbalance_17 (by decide) ?_
      refine r_iald (v := f 1) cX hw hR.1.2.1 1 rfl (by decide) (by decide) rfl dX7_imbalance_18 ?_
      refine lv_icmp_ge (tgt := 65) hx hb dX7_imbalance_19 (by decide) (fun c19 => ?_) (fun c19 => ?_)
      · obtain rfl : i = nP f - 1 := Nat.le_antisymm hi (by have := ix_ge (a := i + 1) (b := nP f) (by omega) (by omega) (by rw [← e3]; exact c19); omega)
        refine lv_iload_n hx hb dX7_imbalance_65 rfl (lv_at hl 2 rfl) ?_
        refine lv_iload_n hx hb dX7_imbalance_66 rfl (lv_at hl 1 rfl) ?_
        refine lv_isub hx hb dX7_imbalance_67 ?_
        exact r_iret cX hr hlocks hw ⟨by unfold q_imbalance; rw [hmn, hmx], rfl⟩ dX7_imbalance_68
      · have hlt : i + 1 < nP f := ix_lt (by omega) (by rw [← e3]; exact c19)
        refine lv_aload_n hx hb dX7_imbalance_22 rfl (lv_at hl 3 rfl) ?_
        refine r_get cX inX7 hw hR.1.1 rfl 0 (by decide) wF_X7_7 rfl dX7_imbalance_23 ?_
        refine lv_bipush (v := 33) hx hb dX7_imbalance_26 (by decide) ?_
        refine lv_iload_n hx hb dX7_imbalance_28 rfl (lv_at hl 0 rfl) ?_
        refine lv_iadd hx hb dX7_imbalance_29 ?_
        refine r_iald (v := f (33 + (i + 1))) cX hw hR.1.2.1 (33 + (i + 1)) (nI_add 33 (i + 1)) (by omega) (by decide) rfl dX7_imbalance_30 ?_
        refine lv_istore (lv' := [(4, .int (f (33 + (i + 1)))), (3, .int (nI (i + 1))), (1, .int mn), (2, .int mx), (0, .ref (b 0))]) hx hb dX7_imbalance_31 hl (by decide) rfl (fun ls hl => ?_)
        refine lv_iload hx hb dX7_imbalance_33 (lv_at hl 0 rfl) ?_
        refine lv_iload_n hx hb dX7_imbalance_35 rfl (lv_at hl 2 rfl) ?_
        refine lv_icmp_ge (tgt := 44) hx hb dX7_imbalance_36 (by decide) (fun c36 => ?_) (fun c36 => ?_)
        · refine lv_iload_n hx hb dX7_imbalance_44 rfl (lv_at hl 2 rfl) ?_
          refine lv_istore_n (lv' := [(1, .int mn), (4, .int (f (33 + (i + 1)))), (3, .int (nI (i + 1))), (2, .int mx), (0, .ref (b 0))]) hx hb dX7_imbalance_45 rfl hl (by decide) rfl (fun ls hl => ?_)
          refine lv_iload hx hb dX7_imbalance_46 (lv_at hl 1 rfl) ?_
          refine lv_iload_n hx hb dX7_imbalance_48 rfl (lv_at hl 3 rfl) ?_
          refine lv_icmp_le (tgt := 57) hx hb dX7_imbalance_49 (by decide) (fun c49 => ?_) (fun c49 => ?_)
          · refine lv_iload_n hx hb dX7_imbalance_57 rfl (lv_at hl 3 rfl) ?_
            refine lv_istore_n (lv' := [(2, .int mx), (1, .int mn), (4, .int (f (33 + (i + 1)))), (3, .int (nI (i + 1))), (0, .ref (b 0))]) hx hb dX7_imbalance_58 rfl hl (by decide) rfl (fun ls hl => ?_)
            refine lv_iinc (v := (nI ((i + 1) + 1))) (lv' := [(3, .int (nI ((i + 1) + 1))), (2, .int mx), (1, .int mn), (4, .int (f (33 + (i + 1)))), (0, .ref (b 0))]) hx hb dX7_imbalance_59 hl (k := 3) rfl (nI_1 (i + 1)) (by decide) rfl (fun ls hl => ?_)
            refine lv_goto (tgt := 12) hx hb dX7_imbalance_62 (by decide) ?_
            exact ih (i + 1) (by omega) (by omega) mn mx _ _ _ hw (by show _ = (if _ then _ else _); rw [← hmn, if_neg (Int32.not_lt.mpr c36)]) (by show _ = (if _ then _ else _); rw [← hmx, if_neg (Int32.not_lt.mpr c49)]) (lv_sub hl [0, 2, 1, 4] rfl)
          · refine lv_iload hx hb dX7_imbalance_52 (lv_at hl 1 rfl) ?_
            refine lv_goto (tgt := 58) hx hb dX7_imbalance_54 (by decide) ?_
            refine lv_istore_n (lv' := [(2, .int (f (33 + (i + 1)))), (1, .int mn), (4, .int (f (33 + (i + 1)))), (3, .int (nI (i + 1))), (0, .ref (b 0))]) hx hb dX7_imbalance_58 rfl hl (by decide) rfl (fun ls hl => ?_)
            refine lv_iinc (v := (nI ((i + 1) + 1))) (lv' := [(3, .int (nI ((i + 1) + 1))), (2, .int (f (33 + (i + 1)))), (1, .int mn), (4, .int (f (33 + (i + 1)))), (0, .ref (b 0))]) hx hb dX7_imbalance_59 hl (k := 3) rfl (nI_1 (i + 1)) (by decide) rfl (fun ls hl => ?_)
            refine lv_goto (tgt := 12) hx hb dX7_imbalance_62 (by decide) ?_
            exact ih (i + 1) (by omega) (by omega) mn (f (33 + (i + 1))) _ _ _ hw (by show _ = (if _ then _ else _); rw [← hmn, if_neg (Int32.not_lt.mpr c36)]) (by show _ = (if _ then _ else _); rw [← hmx, if_pos (Int32.not_le.mp c49)]) (lv_sub hl [0, 2, 1, 4] rfl)
        · refine lv_iload hx hb dX7_imbalance_39 (lv_at hl 0 rfl) ?_
          refine lv_goto (tgt := 45) hx hb dX7_imbalance_41 (by decide) ?_
          refine lv_istore_n (lv' := [(1, .int (f (33 + (i + 1)))), (4, .int (f (33 + (i + 1)))), (3, .int (nI (i + 1))), (2, .int mx), (0, .ref (b 0))]) hx hb dX7_imbalance_45 rfl hl (by decide) rfl (fun ls hl => ?_)
          refine lv_iload hx hb dX7_imbalance_46 (lv_at hl 1 rfl) ?_
          refine lv_iload_n hx hb dX7_imbalance_48 rfl (lv_at hl 3 rfl) ?_
          refine lv_icmp_le (tgt := 57) hx hb dX7_imbalance_49 (by decide) (fun c49 => ?_) (fun c49 => ?_)
          · refine lv_iload_n hx hb dX7_imbalance_57 rfl (lv_at hl 3 rfl) ?_
            refine lv_istore_n (lv' := [(2, .int mx), (1, .int (f (33 + (i + 1)))), (4, .int (f (33 + (i + 1)))), (3, .int (nI (i + 1))), (0, .ref (b 0))]) hx hb dX7_imbalance_58 rfl hl (by decide) rfl (fun ls hl => ?_)
            refine lv_iinc (v := (nI ((i + 1) + 1))) (lv' := [(3, .int (nI ((i + 1) + 1))), (2, .int mx), (1, .int (f (33 + (i + 1)))), (4, .int (f (33 + (i + 1)))), (0, .ref (b 0))]) hx hb dX7_imbalance_59 hl (k := 3) rfl (nI_1 (i + 1)) (by decide) rfl (fun ls hl => ?_)
            refine lv_goto (tgt := 12) hx hb dX7_imbalance_62 (by decide) ?_
            exact ih (i + 1) (by omega) (by omega) (f (33 + (i + 1))) mx _ _ _ hw (by show _ = (if _ then _ else _); rw [← hmn, if_pos (Int32.not_le.mp c36)]) (by show _ = (if _ then _ else _); rw [← hmx, if_neg (Int32.not_lt.mpr c49)]) (lv_sub hl [0, 2, 1, 4] rfl)
          · refine lv_iload hx hb dX7_imbalance_52 (lv_at hl 1 rfl) ?_
            refine lv_goto (tgt := 58) hx hb dX7_imbalance_54 (by decide) ?_
            refine lv_istore_n (lv' := [(2, .int (f (33 + (i + 1)))), (1, .int (f (33 + (i + 1)))), (4, .int (f (33 + (i + 1)))), (3, .int (nI (i + 1))), (0, .ref (b 0))]) hx hb dX7_imbalance_58 rfl hl (by decide) rfl (fun ls hl => ?_)
            refine lv_iinc (v := (nI ((i + 1) + 1))) (lv' := [(3, .int (nI ((i + 1) + 1))), (2, .int (f (33 + (i + 1)))), (1, .int (f (33 + (i + 1)))), (4, .int (f (33 + (i + 1)))), (0, .ref (b 0))]) hx hb dX7_imbalance_59 hl (k := 3) rfl (nI_1 (i + 1)) (by decide) rfl (fun ls hl => ?_)
            refine lv_goto (tgt := 12) hx hb dX7_imbalance_62 (by decide) ?_
            exact ih (i + 1) (by omega) (by omega) (f (33 + (i + 1))) (f (33 + (i + 1))) _ _ _ hw (by show _ = (if _ then _ else _); rw [← hmn, if_pos (Int32.not_le.mp c36)]) (by show _ = (if _ then _ else _); rw [← hmx, if_pos (Int32.not_le.mp c49)]) (lv_sub hl [0, 2, 1, 4] rfl)
  exact lp12 (nP f - 1 + 1) 0 (by omega) (by omega) (f 33) (f 33) _ _ _ hw rfl rfl (lv_sub hl [0, 2, 1, 3] rfl)

set_option maxHeartbeats 4000000 in
set_option maxRecDepth 100000 in
theorem c_X7_wouldReorder (l : Launch) (G : gG) {M : HM} {b : Nat → Nat} {f sv sl fl T iF iN : Nat → Int32} {ct len at_ it : Int32} (hR0 : IsRf G M b f sv sl fl T iF iN ct len at_ it) {B : Nat} (hv : Inv B f) (x y : Int32) (hB : B < 2 ^ 30) : Ci l yX7_wouldReorder cX7_wouldReorder 5 .int (rd 3 0 0) G [.ref (b 0), .int x, .int y] M (fun r M' => r = q_wouldReorder x y f ∧ M' = M) := by
  refine Ci.of (by decide) (Nat.le_of_ble_eq_true rfl) ?_
  intro p e s m args below meth c ls cX hw hlocks hr hl
  have hx := cX.1
  have hb := cX.2.1
  have hl : lv_has ls 5 [(0, .ref (b 0)), (1, .int x), (2, .int y)] := hl
  have hR := hR0.rf
  refine lv_iload_n hx hb dX7_wouldReorder_0 rfl (lv_at hl 1 rfl) ?_
  refine r_Si cX hw [.int x] (c_X7_isFlow l G x) wM_X7_108 mw_X7_isFlow ⟨Nat.le_of_ble_eq_true rfl, Nat.le_of_ble_eq_true rfl⟩ rfl rfl hl.1 (Nat.le_of_ble_eq_true rfl) dX7_wouldReorder_1 ⟨Nat.le_of_ble_eq_true rfl, Nat.le_of_ble_eq_true rfl⟩ (fun r M1 H locs hp hw => ?_)
  obtain ⟨hr1, hq⟩ := hp
  subst hr1
  rw [hq] at hw
  refine lv_if_eq (tgt := 14) hx hb dX7_wouldReorder_4 (by decide) (fun c4 => ?_) (fun c4 => ?_)
  · refine lv_iconst (v := (-1)) hx hb dX7_wouldReorder_14 (by decide) ?_
    exact r_iret cX hr hlocks hw ⟨by unfold q_wouldReorder; rw [if_neg (fun h => if01e c4 h.1)], rfl⟩ dX7_wouldReorder_15
  · refine lv_iload_n hx hb dX7_wouldReorder_7 rfl (lv_at hl 2 rfl) ?_
    refine r_Si cX hw [.int y] (c_X7_isSize l G y) wM_X7_111 mw_X7_isSize ⟨Nat.le_of_ble_eq_true rfl, Nat.le_of_ble_eq_true rfl⟩ rfl rfl hl.1 (Nat.le_of_ble_eq_true rfl) dX7_wouldReorder_8 ⟨Nat.le_of_ble_eq_true rfl, Nat.le_of_ble_eq_true rfl⟩ (fun r M1 H locs hp hw => ?_)
    obtain ⟨hr1, hq⟩ := hp
    subst hr1
    rw [hq] at hw
    refine lv_if_ne (tgt := 16) hx hb dX7_wouldReorder_11 (by decide) (fun c11 => ?_) (fun c11 => ?_)
    · refine lv_aload_n hx hb dX7_wouldReorder_16 rfl (lv_at hl 0 rfl) ?_
      refine lv_iload_n hx hb dX7_wouldReorder_17 rfl (lv_at hl 1 rfl) ?_
      obtain ⟨k, hk, rfl, hxc⟩ := lit_ix 15 (by decide) (if01n c4)
      refine r_Vi cX hw hR.1.1 rfl [.int (nI k)] (c_X7_choose l G hR.1 hv k hk) wM_X7_96 mw_X7_choose ⟨Nat.le_of_ble_eq_true rfl, Nat.le_of_ble_eq_true rfl⟩ rfl rfl hl.1 (Nat.le_of_ble_eq_true rfl) dX7_wouldReorder_18 ⟨Nat.le_of_ble_eq_true rfl, Nat.le_of_ble_eq_true rfl⟩ (fun r M1 H locs hp hw => ?_)
      obtain ⟨hr1, hq⟩ := hp
      subst hr1
      rw [hq] at hw
      obtain ⟨j, hjP, hc⟩ := chF_N hv hB k hk
      obtain ⟨e1, e2, e3⟩ := hv.P
      have hj : j < 4 := by omega
      have hcl : (chF f k).toNatClampNeg = j := by rw [hc]; exact nI_clamp (by omega)
      refine lv_istore_n (lv' := [(3, .int (chF f k)), (0, .ref (b 0)), (1, .int (nI k)), (2, .int y)]) hx hb dX7_wouldReorder_21 rfl hl (by decide) rfl (fun ls hl => ?_)
      refine lv_aload_n hx hb dX7_wouldReorder_22 rfl (lv_at hl 1 rfl) ?_
      refine lv_iload_n hx hb dX7_wouldReorder_23 rfl (lv_at hl 0 rfl) ?_
      refine lv_iload_n hx hb dX7_wouldReorder_24 rfl (lv_at hl 3 rfl) ?_
      refine r_Vi cX hw hR.1.1 rfl [.int (chF f k), .int y] (c_X7_endOf l G hR.1 (chF f k) j hc hj y (hv.nzr j hj)) wM_X7_105 mw_X7_endOf ⟨Nat.le_of_ble_eq_true rfl, Nat.le_of_ble_eq_true rfl⟩ rfl rfl hl.1 (Nat.le_of_ble_eq_true rfl) dX7_wouldReorder_25 ⟨Nat.le_of_ble_eq_true rfl, Nat.le_of_ble_eq_true rfl⟩ (fun r M1 H locs hp hw => ?_)
      obtain ⟨hr1, hq⟩ := hp
      subst hr1
      rw [hq] at hw
      refine lv_aload_n hx hb dX7_wouldReorder_28 rfl (lv_at hl 1 rfl) ?_
      refine r_get cX inX7 hw hR.1.1 rfl 0 (by decide) wF_X7_7 rfl dX7_wouldReorder_29 ?_
      refine lv_bipush (v := 9) hx hb dX7_wouldReorder_32 (by decide) ?_
      refine lv_iload_n hx hb dX7_wouldReorder_34 rfl (lv_at hl 0 rfl) ?_
      refine lv_iadd hx hb dX7_wouldReorder_35 ?_
      refine r_iald (v := f (9 + j)) cX hw hR.1.2.1 (9 + j) (by rw [hc]; exact nI_add 9 j) (by omega) (by decide) rfl dX7_wouldReorder_36 ?_
      refine lv_iadd hx hb dX7_wouldReorder_37 ?_
      refine lv_aload_n hx hb dX7_wouldReorder_38 rfl (lv_at hl 1 rfl) ?_
      refine r_get cX inX7 hw hR.1.1 rfl 0 (by decide) wF_X7_7 rfl dX7_wouldReorder_39 ?_
      refine lv_sipush (v := 137) hx hb dX7_wouldReorder_42 (by decide) ?_
      refine lv_iload_n hx hb dX7_wouldReorder_45 rfl (lv_at hl 2 rfl) ?_
      refine lv_iadd hx hb dX7_wouldReorder_46 ?_
      refine r_iald (v := f (137 + k)) cX hw hR.1.2.1 (137 + k) (nI_add 137 k) (by omega) (by decide) rfl dX7_wouldReorder_47 ?_
      refine lv_icmp_ge (tgt := 55) hx hb dX7_wouldReorder_48 (by decide) (fun c48 => ?_) (fun c48 => ?_)
      · refine lv_iconst (v := 0) hx hb dX7_wouldReorder_55 (by decide) ?_
        refine lv_istore (lv' := [(4, .int 0), (3, .int (chF f k)), (0, .ref (b 0)), (1, .int (nI k)), (2, .int y)]) hx hb dX7_wouldReorder_56 hl (by decide) rfl (fun ls hl => ?_)
        refine lv_iload hx hb dX7_wouldReorder_58 (lv_at hl 0 rfl) ?_
        refine lv_if_eq (tgt := 75) hx hb dX7_wouldReorder_60 (by decide) (fun c60 => ?_) (fun c60 => ?_)
        · refine lv_iconst (v := 0) hx hb dX7_wouldReorder_75 (by decide) ?_
          exact r_iret cX hr hlocks hw ⟨by unfold q_wouldReorder woF; rw [if_pos ⟨if01n c4, if01n c11⟩, hxc, hcl, if_neg (fun h => Int32.not_lt.mpr c48 h.2)], rfl⟩ dX7_wouldReorder_76
        · exact absurd rfl c60
      · refine lv_iconst (v := 1) hx hb dX7_wouldReorder_51 (by decide) ?_
        refine lv_goto (tgt := 56) hx hb dX7_wouldReorder_52 (by decide) ?_
        refine lv_istore (lv' := [(4, .int 1), (3, .int (chF f k)), (0, .ref (b 0)), (1, .int (nI k)), (2, .int y)]) hx hb dX7_wouldReorder_56 hl (by decide) rfl (fun ls hl => ?_)
        refine lv_iload hx hb dX7_wouldReorder_58 (lv_at hl 0 rfl) ?_
        refine lv_if_eq (tgt := 75) hx hb dX7_wouldReorder_60 (by decide) (fun c60 => ?_) (fun c60 => ?_)
        · exact absurd c60 (by decide)
        · refine lv_aload_n hx hb dX7_wouldReorder_63 rfl (lv_at hl 2 rfl) ?_
          refine lv_iload_n hx hb dX7_wouldReorder_64 rfl (lv_at hl 1 rfl) ?_
          refine r_Vi cX hw hR.1.1 rfl [.int (chF f k)] (c_X7_isTooBusy l G hR.1 (chF f k) j hc hj) wM_X7_102 mw_X7_isTooBusy ⟨Nat.le_of_ble_eq_true rfl, Nat.le_of_ble_eq_true rfl⟩ rfl rfl hl.1 (Nat.le_of_ble_eq_true rfl) dX7_wouldReorder_65 ⟨Nat.le_of_ble_eq_true rfl, Nat.le_of_ble_eq_true rfl⟩ (fun r M1 H locs hp hw => ?_)
          obtain ⟨hr1, hq⟩ := hp
          subst hr1
          rw [hq] at hw
          refine lv_if_ne (tgt := 75) hx hb dX7_wouldReorder_68 (by decide) (fun c68 => ?_) (fun c68 => ?_)
          · refine lv_iconst (v := 0) hx hb dX7_wouldReorder_75 (by decide) ?_
            exact r_iret cX hr hlocks hw ⟨by unfold q_wouldReorder woF; rw [if_pos ⟨if01n c4, if01n c11⟩, hxc, hcl, if_neg (fun h => h.1 (if01n c68))], rfl⟩ dX7_wouldReorder_76
          · refine lv_iconst (v := 1) hx hb dX7_wouldReorder_71 (by decide) ?_
            refine lv_goto (tgt := 76) hx hb dX7_wouldReorder_72 (by decide) ?_
            exact r_iret cX hr hlocks hw ⟨by unfold q_wouldReorder woF; rw [if_pos ⟨if01n c4, if01n c11⟩, hxc, hcl, if_pos ⟨if01e c68, Int32.not_le.mp c48⟩], rfl⟩ dX7_wouldReorder_76
    · refine lv_iconst (v := (-1)) hx hb dX7_wouldReorder_14 (by decide) ?_
      exact r_iret cX hr hlocks hw ⟨by unfold q_wouldReorder; rw [if_neg (fun h => if01e c11 h.2)], rfl⟩ dX7_wouldReorder_15
