theorem if01 (c : Prop) [Decidable c] : (if c then (1 : Int32) else 0) = 0 ∨ (if c then (1 : Int32) else 0) = 1 := by split <;> simp
set_option maxHeartbeats 4000000 in
set_option maxRecDepth 100000 in
theorem c_X6_isBetween (l : Launch) (G : gG) {M : HM} (v lo hi : Int32) : Ci l yX6_isBetween cX6_isBetween 3 .boolean (rd 0 0 0) G [.int v, .int lo, .int hi] M (fun r M' => r = (if lo ≤ v ∧ v ≤ hi then 1 else 0) ∧ M' = M) := by
  refine Ci.of (by decide) (Nat.le_of_ble_eq_true rfl) ?_
  intro p e s m args below meth c ls cX hw hlocks hr hl
  have hx := cX.1
  have hb := cX.2.1
  have hl : lv_has ls 3 [(0, .int v), (1, .int lo), (2, .int hi)] := hl
  refine lv_iload_n hx hb dX6_isBetween_0 rfl (lv_at hl 1 rfl) ?_
  refine lv_iload_n hx hb dX6_isBetween_1 rfl (lv_at hl 0 rfl) ?_
  refine lv_icmp_gt (tgt := 14) hx hb dX6_isBetween_2 (by decide) (fun c2 => ?_) (fun c2 => ?_)
  · refine lv_iconst (v := 0) hx hb dX6_isBetween_14 (by decide) ?_
    exact r_zret cX hr hlocks rfl hw ⟨(if_neg (fun h => Int32.not_le.mpr c2 h.1)).symm, rfl⟩ dX6_isBetween_15
  · refine lv_iload_n hx hb dX6_isBetween_5 rfl (lv_at hl 0 rfl) ?_
    refine lv_iload_n hx hb dX6_isBetween_6 rfl (lv_at hl 2 rfl) ?_
    refine lv_icmp_gt (tgt := 14) hx hb dX6_isBetween_7 (by decide) (fun c7 => ?_) (fun c7 => ?_)
    · refine lv_iconst (v := 0) hx hb dX6_isBetween_14 (by decide) ?_
      exact r_zret cX hr hlocks rfl hw ⟨(if_neg (fun h => Int32.not_le.mpr c7 h.2)).symm, rfl⟩ dX6_isBetween_15
    · refine lv_iconst (v := 1) hx hb dX6_isBetween_10 (by decide) ?_
      refine lv_goto (tgt := 15) hx hb dX6_isBetween_11 (by decide) ?_
      exact r_zret cX hr hlocks rfl hw ⟨(if_pos ⟨Int32.not_lt.mp c2, Int32.not_lt.mp c7⟩).symm, rfl⟩ dX6_isBetween_15

set_option maxHeartbeats 4000000 in
set_option maxRecDepth 100000 in
theorem c_X6_isFlow (l : Launch) (G : gG) {M : HM} (v : Int32) : Ci l yX6_isFlow cX6_isFlow 1 .boolean (rd 1 0 0) G [.int v] M (fun r M' => r = (if 0 ≤ v ∧ v ≤ 15 then 1 else 0) ∧ M' = M) := by
  refine Ci.of (by decide) (Nat.le_of_ble_eq_true rfl) ?_
  intro p e s m args below meth c ls cX hw hlocks hr hl
  have hx := cX.1
  have hb := cX.2.1
  have hl : lv_has ls 1 [(0, .int v)] := hl
  refine lv_iload_n hx hb dX6_isFlow_0 rfl (lv_at hl 0 rfl) ?_
  refine lv_iconst (v := 0) hx hb dX6_isFlow_1 (by decide) ?_
  refine lv_bipush (v := 15) hx hb dX6_isFlow_2 (by decide) ?_
  refine r_Si cX hw [.int v, .int 0, .int 15] (c_X6_isBetween l G v 0 15) wM_X6_38 mw_X6_isBetween ⟨Nat.le_of_ble_eq_true rfl, Nat.le_of_ble_eq_true rfl⟩ rfl rfl hl.1 (Nat.le_of_ble_eq_true rfl) dX6_isFlow_4 ⟨Nat.le_of_ble_eq_true rfl, Nat.le_of_ble_eq_true rfl⟩ (fun r M1 H locs hp hw => ?_)
  obtain ⟨hr1, hq⟩ := hp
  subst hr1
  rw [hq] at hw
  exact r_zret cX hr hlocks (z01n (if01 _)) hw ⟨rfl, rfl⟩ dX6_isFlow_7

set_option maxHeartbeats 4000000 in
set_option maxRecDepth 100000 in
theorem c_X6_isSize (l : Launch) (G : gG) {M : HM} (v : Int32) : Ci l yX6_isSize cX6_isSize 1 .boolean (rd 1 0 0) G [.int v] M (fun r M' => r = (if 1 ≤ v ∧ v ≤ 1000 then 1 else 0) ∧ M' = M) := by
  refine Ci.of (by decide) (Nat.le_of_ble_eq_true rfl) ?_
  intro p e s m args below meth c ls cX hw hlocks hr hl
  have hx := cX.1
  have hb := cX.2.1
  have hl : lv_has ls 1 [(0, .int v)] := hl
  refine lv_iload_n hx hb dX6_isSize_0 rfl (lv_at hl 0 rfl) ?_
  refine lv_iconst (v := 1) hx hb dX6_isSize_1 (by decide) ?_
  refine lv_sipush (v := 1000) hx hb dX6_isSize_2 (by decide) ?_
  refine r_Si cX hw [.int v, .int 1, .int 1000] (c_X6_isBetween l G v 1 1000) wM_X6_38 mw_X6_isBetween ⟨Nat.le_of_ble_eq_true rfl, Nat.le_of_ble_eq_true rfl⟩ rfl rfl hl.1 (Nat.le_of_ble_eq_true rfl) dX6_isSize_5 ⟨Nat.le_of_ble_eq_true rfl, Nat.le_of_ble_eq_true rfl⟩ (fun r M1 H locs hp hw => ?_)
  obtain ⟨hr1, hq⟩ := hp
  subst hr1
  rw [hq] at hw
  exact r_zret cX hr hlocks (z01n (if01 _)) hw ⟨rfl, rfl⟩ dX6_isSize_8

set_option maxHeartbeats 4000000 in
set_option maxRecDepth 100000 in
theorem c_X6_remainder (l : Launch) (G : gG) {M : HM} (v d : Int32) (hd : 1 ≤ d) : Ci l yX6_remainder cX6_remainder 2 .int (rd 0 0 0) G [.int v, .int d] M (fun r M' => r = jr v d ∧ M' = M) := by
  refine Ci.of (by decide) (Nat.le_of_ble_eq_true rfl) ?_
  intro p e s m args below meth c ls cX hw hlocks hr hl
  have hx := cX.1
  have hb := cX.2.1
  have hl : lv_has ls 2 [(0, .int v), (1, .int d)] := hl
  refine lv_iload_n hx hb dX6_remainder_0 rfl (lv_at hl 1 rfl) ?_
  refine lv_iconst (v := 1) hx hb dX6_remainder_1 (by decide) ?_
  refine lv_icmp_ge (tgt := 9) hx hb dX6_remainder_2 (by decide) (fun c2 => ?_) (fun c2 => ?_)
  · refine lv_iload_n hx hb dX6_remainder_9 rfl (lv_at hl 0 rfl) ?_
    refine lv_iload_n hx hb dX6_remainder_10 rfl (lv_at hl 1 rfl) ?_
    refine r_irem hx hb dX6_remainder_11 (ge1_nz hd) ?_
    exact r_iret cX hr hlocks hw ⟨rfl, rfl⟩ dX6_remainder_12
  · exact absurd hd c2

set_option maxHeartbeats 4000000 in
set_option maxRecDepth 100000 in
theorem c_X4_hasPath (l : Launch) (G : gG) {M : HM} {L : Nat → Nat} {f : Nat → Int32} (hI0 : IsSt G M L f) (v : Int32) : Ci l yX4_hasPath cX4_hasPath 2 .boolean (rd 1 0 0) G [.ref (L 0), .int v] M (fun r M' => r = (if 0 ≤ v ∧ v ≤ f 1 - 1 then 1 else 0) ∧ M' = M) := by
  refine Ci.of (by decide) (Nat.le_of_ble_eq_true rfl) ?_
  intro p e s m args below meth c ls cX hw hlocks hr hl
  have hx := cX.1
  have hb := cX.2.1
  have hl : lv_has ls 2 [(0, .ref (L 0)), (1, .int v)] := hl
  have hI := hI0.st
  refine lv_iload_n hx hb dX4_hasPath_0 rfl (lv_at hl 1 rfl) ?_
  refine lv_iconst (v := 0) hx hb dX4_hasPath_1 (by decide) ?_
  refine lv_aload_n hx hb dX4_hasPath_2 rfl (lv_at hl 0 rfl) ?_
  refine r_get cX inX4 hw hI.1.1 rfl 0 (by decide) wF_X4_36 rfl dX4_hasPath_3 ?_
  refine lv_iconst (v := 1) hx hb dX4_hasPath_6 (by decide) ?_
  refine lv_isub hx hb dX4_hasPath_7 ?_
  refine r_SNi cX hw [.int v, .int 0, .int ((f 1) - 1)] (c_X6_isBetween l G v 0 ((f 1) - 1)) wM_X4_78 mw_X6_isBetween ⟨Nat.le_of_ble_eq_true rfl, Nat.le_of_ble_eq_true rfl⟩ rfl rfl hl.1 (Nat.le_of_ble_eq_true rfl) dX4_hasPath_8 ⟨Nat.le_of_ble_eq_true rfl, Nat.le_of_ble_eq_true rfl⟩ (fun r M1 H locs hp hw => ?_)
  obtain ⟨hr1, hq⟩ := hp
  subst hr1
  rw [hq] at hw
  exact r_zret cX hr hlocks (z01n (if01 _)) hw ⟨rfl, rfl⟩ dX4_hasPath_11

set_option maxHeartbeats 4000000 in
set_option maxRecDepth 100000 in
theorem c_X4_hasEntry (l : Launch) (G : gG) {M : HM} {L : Nat → Nat} {f : Nat → Int32} (hI0 : IsSt G M L f) (v : Int32) : Ci l yX4_hasEntry cX4_hasEntry 2 .boolean (rd 1 0 0) G [.ref (L 0), .int v] M (fun r M' => r = (if 0 ≤ v ∧ v ≤ f 2 - 1 then 1 else 0) ∧ M' = M) := by
  refine Ci.of (by decide) (Nat.le_of_ble_eq_true rfl) ?_
  intro p e s m args below meth c ls cX hw hlocks hr hl
  have hx := cX.1
  have hb := cX.2.1
  have hl : lv_has ls 2 [(0, .ref (L 0)), (1, .int v)] := hl
  have hI := hI0.st
  refine lv_iload_n hx hb dX4_hasEntry_0 rfl (lv_at hl 1 rfl) ?_
  refine lv_iconst (v := 0) hx hb dX4_hasEntry_1 (by decide) ?_
  refine lv_aload_n hx hb dX4_hasEntry_2 rfl (lv_at hl 0 rfl) ?_
  refine r_get cX inX4 hw hI.1.1 rfl 1 (by decide) wF_X4_40 rfl dX4_hasEntry_3 ?_
  refine lv_iconst (v := 1) hx hb dX4_hasEntry_6 (by decide) ?_
  refine lv_isub hx hb dX4_hasEntry_7 ?_
  refine r_SNi cX hw [.int v, .int 0, .int ((f 2) - 1)] (c_X6_isBetween l G v 0 ((f 2) - 1)) wM_X4_78 mw_X6_isBetween ⟨Nat.le_of_ble_eq_true rfl, Nat.le_of_ble_eq_true rfl⟩ rfl rfl hl.1 (Nat.le_of_ble_eq_true rfl) dX4_hasEntry_8 ⟨Nat.le_of_ble_eq_true rfl, Nat.le_of_ble_eq_true rfl⟩ (fun r M1 H locs hp hw => ?_)
  obtain ⟨hr1, hq⟩ := hp
  subst hr1
  rw [hq] at hw
  exact r_zret cX hr hlocks (z01n (if01 _)) hw ⟨rfl, rfl⟩ dX4_hasEntry_11

set_option maxHeartbeats 4000000 in
set_option maxRecDepth 100000 in
theorem c_X4_hasTimeFor (l : Launch) (G : gG) {M : HM} {L : Nat → Nat} {f : Nat → Int32} (hI0 : IsSt G M L f) (t : Int32) : Ci l yX4_hasTimeFor cX4_hasTimeFor 2 .boolean (rd 0 0 0) G [.ref (L 0), .int t] M (fun r M' => r = (if t ≤ tmx - f 0 then 1 else 0) ∧ M' = M) := by
  refine Ci.of (by decide) (Nat.le_of_ble_eq_true rfl) ?_
  intro p e s m args below meth c ls cX hw hlocks hr hl
  have hx := cX.1
  have hb := cX.2.1
  have hl : lv_has ls 2 [(0, .ref (L 0)), (1, .int t)] := hl
  have hI := hI0.st
  refine lv_iload_n hx hb dX4_hasTimeFor_0 rfl (lv_at hl 1 rfl) ?_
  refine lv_ldc (v := 1000000) hx hb cX.2.2.2.1 (cX.2.2.2.2.ts _ wK_X4_86) dX4_hasTimeFor_1 ?_
  refine lv_aload_n hx hb dX4_hasTimeFor_3 rfl (lv_at hl 0 rfl) ?_
  refine r_get cX inX4 hw hI.1.1 rfl 2 (by decide) wF_X4_43 rfl dX4_hasTimeFor_4 ?_
  refine lv_isub hx hb dX4_hasTimeFor_7 ?_
  refine lv_icmp_gt (tgt := 15) hx hb dX4_hasTimeFor_8 (by decide) (fun c8 => ?_) (fun c8 => ?_)
  · refine lv_iconst (v := 0) hx hb dX4_hasTimeFor_15 (by decide) ?_
    exact r_zret cX hr hlocks rfl hw ⟨(if_neg (Int32.not_le.mpr c8)).symm, rfl⟩ dX4_hasTimeFor_16
  · refine lv_iconst (v := 1) hx hb dX4_hasTimeFor_11 (by decide) ?_
    refine lv_goto (tgt := 16) hx hb dX4_hasTimeFor_12 (by decide) ?_
    exact r_zret cX hr hlocks rfl hw ⟨(if_pos (Int32.not_lt.mp c8)).symm, rfl⟩ dX4_hasTimeFor_16

set_option maxHeartbeats 4000000 in
set_option maxRecDepth 100000 in
theorem c_X4_entryNumber (l : Launch) (G : gG) {M : HM} {L : Nat → Nat} {f : Nat → Int32} (hI0 : IsSt G M L f) (x : Int32) (h2 : 1 ≤ f 2) : Ci l yX4_entryNumber cX4_entryNumber 2 .int (rd 1 0 0) G [.ref (L 0), .int x] M (fun r M' => r = jr (7 * x + 3) (f 2) ∧ M' = M) := by
  refine Ci.of (by decide) (Nat.le_of_ble_eq_true rfl) ?_
  intro p e s m args below meth c ls cX hw hlocks hr hl
  have hx := cX.1
  have hb := cX.2.1
  have hl : lv_has ls 2 [(0, .ref (L 0)), (1, .int x)] := hl
  have hI := hI0.st
  refine lv_bipush (v := 7) hx hb dX4_entryNumber_0 (by decide) ?_
  refine lv_iload_n hx hb dX4_entryNumber_2 rfl (lv_at hl 1 rfl) ?_
  refine lv_imul hx hb dX4_entryNumber_3 ?_
  refine lv_iconst (v := 3) hx hb dX4_entryNumber_4 (by decide) ?_
  refine lv_iadd hx hb dX4_entryNumber_5 ?_
  refine lv_aload_n hx hb dX4_entryNumber_6 rfl (lv_at hl 0 rfl) ?_
  refine r_get cX inX4 hw hI.1.1 rfl 1 (by decide) wF_X4_40 rfl dX4_entryNumber_7 ?_
  refine r_SNi cX hw [.int ((7 * x) + 3), .int (f 2)] (c_X6_remainder l G ((7 * x) + 3) (f 2) h2) wM_X4_87 mw_X6_remainder ⟨Nat.le_of_ble_eq_true rfl, Nat.le_of_ble_eq_true rfl⟩ rfl rfl hl.1 (Nat.le_of_ble_eq_true rfl) dX4_entryNumber_10 ⟨Nat.le_of_ble_eq_true rfl, Nat.le_of_ble_eq_true rfl⟩ (fun r M1 H locs hp hw => ?_)
  obtain ⟨hr1, hq⟩ := hp
  subst hr1
  rw [hq] at hw
  exact r_iret cX hr hlocks hw ⟨rfl, rfl⟩ dX4_entryNumber_13

set_option maxHeartbeats 4000000 in
set_option maxRecDepth 100000 in
theorem c_X4_countFlowsOfEntry (l : Launch) (G : gG) {M : HM} {L : Nat → Nat} {f : Nat → Int32} (hI0 : IsSt G M L f) (e0 : Int32) (h2 : 1 ≤ f 2) : Ci l yX4_countFlowsOfEntry cX4_countFlowsOfEntry 4 .int (rd 2 0 0) G [.ref (L 0), .int e0] M (fun r M' => r = cnF f e0 16 ∧ M' = M) := by
  refine Ci.of (by decide) (Nat.le_of_ble_eq_true rfl) ?_
  intro p e s m args below meth c ls cX hw hlocks hr hl
  have hx := cX.1
  have hb := cX.2.1
  have hl : lv_has ls 4 [(0, .ref (L 0)), (1, .int e0)] := hl
  have hI := hI0.st
  refine lv_iconst (v := 0) hx hb dX4_countFlowsOfEntry_0 (by decide) ?_
  refine lv_istore_n (lv' := [(2, .int 0), (0, .ref (L 0)), (1, .int e0)]) hx hb dX4_countFlowsOfEntry_1 rfl hl (by decide) rfl (fun ls hl => ?_)
  refine lv_iconst (v := 0) hx hb dX4_countFlowsOfEntry_2 (by decide) ?_
  refine lv_istore_n (lv' := [(3, .int 0), (2, .int 0), (0, .ref (L 0)), (1, .int e0)]) hx hb dX4_countFlowsOfEntry_3 rfl hl (by decide) rfl (fun ls hl => ?_)
  have lp4 : ∀ (nn i : Nat), i ≤ 16 → 16 < i + nn → ∀ (x2 : Int32) (H : Heap) (locs : List Loc) (ls : Array Slot), Wd G (dm M s.heap.size) s.heap M H locs → x2 = cnF f e0 i → lv_has ls 4 [(3, .int (nI i)), (2, .int x2), (1, .int e0), (0, .ref (L 0))] → W p l e (rd 2 0 0) s m args below meth c H locs 0 0 (MQ below (QI G M s.heap.size (fun r M' => r = cnF f e0 16 ∧ M' = M)) args s 0 0 (dm M s.heap.size)) (F0 m 4 ls []) := by
    intro nn
    induction nn with
    | zero =>
      intro i h1 h2
      exact absurd h2 (by omega)
    | succ nn ih =>
      intro i hi hin x2 H locs ls hw hx2 hl
      refine lv_iload_n hx hb dX4_countFlowsOfEntry_4 rfl (lv_at hl 0 rfl) ?_
      refine lv_bipush (v := 16) hx hb dX4_countFlowsOfEntry_5 (by decide) ?_
      refine lv_icmp_ge (tgt := 28) hx hb dX4_countFlowsOfEntry_7 (by decide) (fun c7 => ?_) (fun c7 => ?_)
      · obtain rfl : i = 16 := Nat.le_antisymm hi (ix_ge (b := 16) (by omega) (by decide) c7)
        refine lv_iload_n hx hb dX4_countFlowsOfEntry_28 rfl (lv_at hl 1 rfl) ?_
        exact r_iret cX hr hlocks hw ⟨hx2, rfl⟩ dX4_countFlowsOfEntry_29
      · have hlt : i < 16 := ix_lt (b := 16) (by omega) c7
        refine lv_aload_n hx hb dX4_countFlowsOfEntry_10 rfl (lv_at hl 3 rfl) ?_
        refine lv_iload_n hx hb dX4_countFlowsOfEntry_11 rfl (lv_at hl 0 rfl) ?_
        refine r_Vi cX hw hI.1.1 rfl [.int (nI i)] (c_X4_entryNumber l G hI.1 (nI i) h2) wM_X4_91 mw_X4_entryNumber ⟨Nat.le_of_ble_eq_true rfl, Nat.le_of_ble_eq_true rfl⟩ rfl rfl hl.1 (Nat.le_of_ble_eq_true rfl) dX4_countFlowsOfEntry_12 ⟨Nat.le_of_ble_eq_true rfl, Nat.le_of_ble_eq_true rfl⟩ (fun r M1 H locs hp hw => ?_)
        obtain ⟨hr1, hq⟩ := hp
        subst hr1
        rw [hq] at hw
        refine lv_iload_n hx hb dX4_countFlowsOfEntry_15 rfl (lv_at hl 2 rfl) ?_
        refine lv_icmp_ne (tgt := 22) hx hb dX4_countFlowsOfEntry_16 (by decide) (fun c16 => ?_) (fun c16 => ?_)
        · refine lv_iinc (v := (nI (i + 1))) (lv' := [(3, .int (nI (i + 1))), (2, .int x2), (1, .int e0), (0, .ref (L 0))]) hx hb dX4_countFlowsOfEntry_22 hl (k := 0) rfl (nI_1 i) (by decide) rfl (fun ls hl => ?_)
          refine lv_goto (tgt := 4) hx hb dX4_countFlowsOfEntry_25 (by decide) ?_
          exact ih (i + 1) (by omega) (by omega) x2 _ _ _ hw (by rw [hx2]; show _ = (if _ then _ else _); rw [if_neg c16]) (lv_sub hl [0, 1, 2, 3] rfl)
        · refine lv_iinc (v := (x2 + 1)) (lv' := [(2, .int (x2 + 1)), (3, .int (nI i)), (1, .int e0), (0, .ref (L 0))]) hx hb dX4_countFlowsOfEntry_19 hl (k := 1) rfl rfl (by decide) rfl (fun ls hl => ?_)
          refine lv_iinc (v := (nI (i + 1))) (lv' := [(3, .int (nI (i + 1))), (2, .int (x2 + 1)), (1, .int e0), (0, .ref (L 0))]) hx hb dX4_countFlowsOfEntry_22 hl (k := 1) rfl (nI_1 i) (by decide) rfl (fun ls hl => ?_)
          refine lv_goto (tgt := 4) hx hb dX4_countFlowsOfEntry_25 (by decide) ?_
          exact ih (i + 1) (by omega) (by omega) (x2 + 1) _ _ _ hw (by rw [hx2]; show _ = (if _ then _ else _); rw [if_pos c16]) (lv_sub hl [0, 1, 2, 3] rfl)
  exact lp4 (16 + 1) 0 (by omega) (by omega) 0 _ _ _ hw rfl (lv_sub hl [0, 1, 3, 2] rfl)

set_option maxHeartbeats 4000000 in
set_option maxRecDepth 100000 in
theorem c_X4_isInUse (l : Launch) (G : gG) {M : HM} {L : Nat → Nat} {f : Nat → Int32} (hI0 : IsSt G M L f) (i : Nat) (hi : i < 8) : Ci l yX4_isInUse cX4_isInUse 2 .boolean (rd 0 0 0) G [.ref (L 0), .ref (L (8 + i))] M (fun r M' => r = (if lvE f i = true then 1 else 0) ∧ M' = M) := by
  refine Ci.of (by decide) (Nat.le_of_ble_eq_true rfl) ?_
  intro p e s m args below meth c ls cX hw hlocks hr hl
  have hx := cX.1
  have hb := cX.2.1
  have hl : lv_has ls 2 [(0, .ref (L 0)), (1, .ref (L (8 + i)))] := hl
  have hI := hI0.st
  refine lv_aload_n hx hb dX4_isInUse_0 rfl (lv_at hl 1 rfl) ?_
  refine r_get cX inX0 hw (hI.1.2.2.2.2.2.1 i hi) rfl 0 (by decide) wF_X4_95 rfl dX4_isInUse_1 ?_
  refine lv_if_eq (tgt := 35) hx hb dX4_isInUse_4 (by decide) (fun c4 => ?_) (fun c4 => ?_)
  · refine lv_iconst (v := 0) hx hb dX4_isInUse_35 (by decide) ?_
    exact r_zret cX hr hlocks rfl hw ⟨by rw [show lvE f i = false from (by simp only [lvE, decide_eq_false_iff_not]; intro h; rw [h.1] at c4; exact absurd c4 (by decide))]; rfl, rfl⟩ dX4_isInUse_36
  · refine lv_aload_n hx hb dX4_isInUse_7 rfl (lv_at hl 0 rfl) ?_
    refine r_get cX inX4 hw hI.1.1 rfl 4 (by decide) wF_X4_49 rfl dX4_isInUse_8 ?_
    refine lv_iconst (v := 1) hx hb dX4_isInUse_11 (by decide) ?_
    refine lv_icmp_eq (tgt := 31) hx hb dX4_isInUse_12 (by decide) (fun c12 => ?_) (fun c12 => ?_)
    · refine lv_iconst (v := 1) hx hb dX4_isInUse_31 (by decide) ?_
      refine lv_goto (tgt := 36) hx hb dX4_isInUse_32 (by decide) ?_
      exact r_zret cX hr hlocks rfl hw ⟨by have hz := hI.1.2.2.2.2.2.2.2.2 i hi; rw [show lvE f i = true from (by simp only [lvE, decide_eq_true_eq]; exact ⟨(hz.resolve_left c4), Or.inl c12⟩)]; rfl, rfl⟩ dX4_isInUse_36
    · refine lv_aload_n hx hb dX4_isInUse_15 rfl (lv_at hl 0 rfl) ?_
      refine r_get cX inX4 hw hI.1.1 rfl 2 (by decide) wF_X4_43 rfl dX4_isInUse_16 ?_
      refine lv_aload_n hx hb dX4_isInUse_19 rfl (lv_at hl 1 rfl) ?_
      refine r_get cX inX0 hw (hI.1.2.2.2.2.2.1 i hi) rfl 2 (by decide) wF_X4_99 rfl dX4_isInUse_20 ?_
      refine lv_isub hx hb dX4_isInUse_23 ?_
      refine lv_aload_n hx hb dX4_isInUse_24 rfl (lv_at hl 0 rfl) ?_
      refine r_get cX inX4 hw hI.1.1 rfl 5 (by decide) wF_X4_52 rfl dX4_isInUse_25 ?_
      refine lv_icmp_gt (tgt := 35) hx hb dX4_isInUse_28 (by decide) (fun c28 => ?_) (fun c28 => ?_)
      · refine lv_iconst (v := 0) hx hb dX4_isInUse_35 (by decide) ?_
        exact r_zret cX hr hlocks rfl hw ⟨by rw [show lvE f i = false from (by simp only [lvE, decide_eq_false_iff_not]; exact fun h => h.2.elim c12 (fun h3 => Int32.not_le.mpr c28 h3))]; rfl, rfl⟩ dX4_isInUse_36
      · refine lv_iconst (v := 1) hx hb dX4_isInUse_31 (by decide) ?_
        refine lv_goto (tgt := 36) hx hb dX4_isInUse_32 (by decide) ?_
        exact r_zret cX hr hlocks rfl hw ⟨by have hz := hI.1.2.2.2.2.2.2.2.2 i hi; rw [show lvE f i = true from (by simp only [lvE, decide_eq_true_eq]; exact ⟨(hz.resolve_left c4), Or.inr (Int32.not_lt.mp c28)⟩)]; rfl, rfl⟩ dX4_isInUse_36

set_option maxHeartbeats 4000000 in
set_option maxRecDepth 100000 in
theorem c_X4_countEntriesInUse (l : Launch) (G : gG) {M : HM} {L : Nat → Nat} {f : Nat → Int32} (hI0 : IsSt G M L f) {B : Nat} (hv : Inv B f) : Ci l yX4_countEntriesInUse cX4_countEntriesInUse 3 .int (rd 1 0 0) G [.ref (L 0)] M (fun r M' => r = acN f (nE f) ∧ M' = M) := by
  obtain ⟨e1, e2, e3⟩ := hv.E
  refine Ci.of (by decide) (Nat.le_of_ble_eq_true rfl) ?_
  intro p e s m args below meth c ls cX hw hlocks hr hl
  have hx := cX.1
  have hb := cX.2.1
  have hl : lv_has ls 3 [(0, .ref (L 0))] := hl
  have hI := hI0.st
  refine lv_iconst (v := 0) hx hb dX4_countEntriesInUse_0 (by decide) ?_
  refine lv_istore_n (lv' := [(1, .int 0), (0, .ref (L 0))]) hx hb dX4_countEntriesInUse_1 rfl hl (by decide) rfl (fun ls hl => ?_)
  refine lv_iconst (v := 0) hx hb dX4_countEntriesInUse_2 (by decide) ?_
  refine lv_istore_n (lv' := [(2, .int 0), (1, .int 0), (0, .ref (L 0))]) hx hb dX4_countEntriesInUse_3 rfl hl (by decide) rfl (fun ls hl => ?_)
  have lp4 : ∀ (nn i : Nat), i ≤ nE f → nE f < i + nn → ∀ (x1 : Int32) (H : Heap) (locs : List Loc) (ls : Array Slot), Wd G (dm M s.heap.size) s.heap M H locs → x1 = acN f i → lv_has ls 3 [(2, .int (nI i)), (1, .int x1), (0, .ref (L 0))] → W p l e (rd 1 0 0) s m args below meth c H locs 0 0 (MQ below (QI G M s.heap.size (fun r M' => r = acN f (nE f) ∧ M' = M)) args s 0 0 (dm M s.heap.size)) (F0 m 4 ls []) := by
    intro nn
    induction nn with
    | zero =>
      intro i h1 h2
      exact absurd h2 (by omega)
    | succ nn ih =>
      intro i hi hin x1 H locs ls hw hx1 hl
      refine lv_iload_n hx hb dX4_countEntriesInUse_4 rfl (lv_at hl 0 rfl) ?_
      refine lv_aload_n hx hb dX4_countEntriesInUse_5 rfl (lv_at hl 2 rfl) ?_
      refine r_get cX inX4 hw hI.1.1 rfl 1 (by decide) wF_X4_40 rfl dX4_countEntriesInUse_6 ?_
      refine lv_icmp_ge (tgt := 34) hx hb dX4_countEntriesInUse_9 (by decide) (fun c9 => ?_) (fun c9 => ?_)
      · obtain rfl : i = nE f := Nat.le_antisymm hi (ix_ge (b := nE f) (by omega) (by omega) (by rw [← e3]; exact c9))
        refine lv_iload_n hx hb dX4_countEntriesInUse_34 rfl (lv_at hl 1 rfl) ?_
        exact r_iret cX hr hlocks hw ⟨hx1, rfl⟩ dX4_countEntriesInUse_35
      · have hlt : i < nE f := ix_lt (b := nE f) (by omega) (by rw [← e3]; exact c9)
        refine lv_aload_n hx hb dX4_countEntriesInUse_12 rfl (lv_at hl 2 rfl) ?_
        refine lv_aload_n hx hb dX4_countEntriesInUse_13 rfl (lv_at hl 2 rfl) ?_
        refine r_get cX inX4 hw hI.1.1 rfl 10 (by decide) wF_X4_19 rfl dX4_countEntriesInUse_14 ?_
        refine lv_iload_n hx hb dX4_countEntriesInUse_17 rfl (lv_at hl 0 rfl) ?_
        obtain ⟨g_1, hg_1, hg_1_⟩ := hI.1.2.2.1
        refine r_aald cX hw 2 rfl hg_1 i rfl (by omega) (by decide) (hg_1_ i (by omega)) dX4_countEntriesInUse_18 ?_
        refine r_Vi cX hw hI.1.1 rfl [.ref (L (8 + i))] (c_X4_isInUse l G hI.1 i (by omega)) wM_X4_102 mw_X4_isInUse ⟨Nat.le_of_ble_eq_true rfl, Nat.le_of_ble_eq_true rfl⟩ rfl rfl hl.1 (Nat.le_of_ble_eq_true rfl) dX4_countEntriesInUse_19 ⟨Nat.le_of_ble_eq_true rfl, Nat.le_of_ble_eq_true rfl⟩ (fun r M1 H locs hp hw => ?_)
        obtain ⟨hr1, hq⟩ := hp
        subst hr1
        rw [hq] at hw
        refine lv_if_eq (tgt := 28) hx hb dX4_countEntriesInUse_22 (by decide) (fun c22 => ?_) (fun c22 => ?_)
        · refine lv_iinc (v := (nI (i + 1))) (lv' := [(2, .int (nI (i + 1))), (1, .int x1), (0, .ref (L 0))]) hx hb dX4_countEntriesInUse_28 hl (k := 0) rfl (nI_1 i) (by decide) rfl (fun ls hl => ?_)
          refine lv_goto (tgt := 4) hx hb dX4_countEntriesInUse_31 (by decide) ?_
          exact ih (i + 1) (by omega) (by omega) x1 _ _ _ hw (by rw [hx1]; show _ = (if _ then _ else _); rw [if_neg (by simpa using c22)]) (lv_sub hl [0, 1, 2] rfl)
        · refine lv_iinc (v := (x1 + 1)) (lv' := [(1, .int (x1 + 1)), (2, .int (nI i)), (0, .ref (L 0))]) hx hb dX4_countEntriesInUse_25 hl (k := 1) rfl rfl (by decide) rfl (fun ls hl => ?_)
          refine lv_iinc (v := (nI (i + 1))) (lv' := [(2, .int (nI (i + 1))), (1, .int (x1 + 1)), (0, .ref (L 0))]) hx hb dX4_countEntriesInUse_28 hl (k := 1) rfl (nI_1 i) (by decide) rfl (fun ls hl => ?_)
          refine lv_goto (tgt := 4) hx hb dX4_countEntriesInUse_31 (by decide) ?_
          exact ih (i + 1) (by omega) (by omega) (x1 + 1) _ _ _ hw (by rw [hx1]; show _ = (if _ then _ else _); rw [if_pos (by simpa using c22)]) (lv_sub hl [0, 1, 2] rfl)
  exact lp4 (nE f + 1) 0 (by omega) (by omega) 0 _ _ _ hw rfl (lv_sub hl [0, 1, 2] rfl)

set_option maxHeartbeats 4000000 in
set_option maxRecDepth 100000 in
theorem c_X4_spreadOfLatencies (l : Launch) (G : gG) {M : HM} {L : Nat → Nat} {f : Nat → Int32} (hI0 : IsSt G M L f) (size : Int32) {B : Nat} (hv : Inv B f) : Ci l yX4_spreadOfLatencies cX4_spreadOfLatencies 6 .int (rd 3 0 0) G [.ref (L 0), .int size] M (fun r M' => r = mxN (laF f size) (nP f - 1) - mnN (laF f size) (nP f - 1) ∧ M' = M) := by
  obtain ⟨e1, e2, e3⟩ := hv.P
  refine Ci.of (by decide) (Nat.le_of_ble_eq_true rfl) ?_
  intro p e s m args below meth c ls cX hw hlocks hr hl
  have hx := cX.1
  have hb := cX.2.1
  have hl : lv_has ls 6 [(0, .ref (L 0)), (1, .int size)] := hl
  have hI := hI0.st
  refine lv_aload_n hx hb dX4_spreadOfLatencies_0 rfl (lv_at hl 0 rfl) ?_
  refine r_get cX inX4 hw hI.1.1 rfl 9 (by decide) wF_X4_11 rfl dX4_spreadOfLatencies_1 ?_
  refine lv_iconst (v := 0) hx hb dX4_spreadOfLatencies_4 (by decide) ?_
  obtain ⟨g_2, hg_2, hg_2_⟩ := hI.1.2.1
  refine r_aald cX hw 4 rfl hg_2 0 rfl (by decide) (by decide) (hg_2_ 0 (by decide)) dX4_spreadOfLatencies_5 ?_
  refine lv_aload_n hx hb dX4_spreadOfLatencies_6 rfl (lv_at hl 0 rfl) ?_
  refine r_get cX inX4 hw hI.1.1 rfl 2 (by decide) wF_X4_43 rfl dX4_spreadOfLatencies_7 ?_
  refine lv_iload_n hx hb dX4_spreadOfLatencies_10 rfl (lv_at hl 1 rfl) ?_
  refine r_Vi cX hw (hI.1.2.2.2.2.1 0 (by decide)) rfl [.int (f 0), .int size] (c_X2_ticksToArrive l G (hI.1.2.2.2.2.1 0 (by decide)) (f 0) size (hv.ger 0 (by decide))) wM_X4_106 mw_X2_ticksToArrive ⟨Nat.le_of_ble_eq_true rfl, Nat.le_of_ble_eq_true rfl⟩ rfl rfl hl.1 (Nat.le_of_ble_eq_true rfl) dX4_spreadOfLatencies_11 ⟨Nat.le_of_ble_eq_true rfl, Nat.le_of_ble_eq_true rfl⟩ (fun r M1 H locs hp hw => ?_)
  obtain ⟨hr1, hq⟩ := hp
  subst hr1
  rw [hq] at hw
  refine lv_istore_n (lv' := [(2, .int (laF f size 0)), (0, .ref (L 0)), (1, .int size)]) hx hb dX4_spreadOfLatencies_14 rfl hl (by decide) rfl (fun ls hl => ?_)
  refine lv_iload_n hx hb dX4_spreadOfLatencies_15 rfl (lv_at hl 0 rfl) ?_
  refine lv_istore_n (lv' := [(3, .int (laF f size 0)), (2, .int (laF f size 0)), (0, .ref (L 0)), (1, .int size)]) hx hb dX4_spreadOfLatencies_16 rfl hl (by decide) rfl (fun ls hl => ?_)
  refine lv_iconst (v := 1) hx hb dX4_spreadOfLatencies_17 (by decide) ?_
  refine lv_istore (lv' := [(4, .int 1), (3, .int (laF f size 0)), (2, .int (laF f size 0)), (0, .ref (L 0)), (1, .int size)]) hx hb dX4_spreadOfLatencies_18 hl (by decide) rfl (fun ls hl => ?_)
  have lp20 : ∀ (nn i : Nat), i ≤ nP f - 1 → nP f - 1 < i + nn → ∀ (mn : Int32) (mx : Int32) (H : Heap) (locs : List Loc) (ls : Array Slot), Wd G (dm M s.heap.size) s.heap M H locs → mn = mnN (laF f size) i → mx = mxN (laF f size) i → lv_has ls 6 [(4, .int (nI (i + 1))), (2, .int mn), (3, .int mx), (1, .int size), (0, .ref (L 0))] → W p l e (rd 3 0 0) s m args below meth c H locs 0 0 (MQ below (QI G M s.heap.size (fun r M' => r = mxN (laF f size) (nP f - 1) - mnN (laF f size) (nP f - 1) ∧ M' = M)) args s 0 0 (dm M s.heap.size)) (F0 m 20 ls []) := by
    intro nn
    induction nn with
    | zero =>
      intro i h1 h2
      exact absurd h2 (by omega)
    | succ nn ih =>
      intro i hi hin mn mx H locs ls hw hmn hmx hl
      refine lv_iload hx hb dX4_spreadOfLatencies_20 (lv_at hl 0 rfl) ?_
      refine lv_aload_n hx hb dX4_spreadOfLatencies_22 rfl (lv_at hl 4 rfl) ?_
      refine r_get cX inX4 hw hI.1.1 rfl 0 (by decide) wF_X4_36 rfl dX4_spreadOfLatencies_23 ?_
      refine lv_icmp_ge (tgt := 66) hx hb dX4_spreadOfLatencies_26 (by decide) (fun c26 => ?_) (fun c26 => ?_)
      · obtain rfl : i = nP f - 1 := Nat.le_antisymm hi (by have := ix_ge (a := i + 1) (b := nP f) (by omega) (by omega) (by rw [← e3]; exact c26); omega)
        refine lv_iload_n hx hb dX4_spreadOfLatencies_66 rfl (lv_at hl 2 rfl) ?_
        refine lv_iload_n hx hb dX4_spreadOfLatencies_67 rfl (lv_at hl 1 rfl) ?_
        refine lv_isub hx hb dX4_spreadOfLatencies_68 ?_
        exact r_iret cX hr hlocks hw ⟨by rw [hmn, hmx], rfl⟩ dX4_spreadOfLatencies_69
      · have hlt : i + 1 < nP f := ix_lt (by omega) (by rw [← e3]; exact c26)
        refine lv_aload_n hx hb dX4_spreadOfLatencies_29 rfl (lv_at hl 4 rfl) ?_
        refine r_get cX inX4 hw hI.1.1 rfl 9 (by decide) wF_X4_11 rfl dX4_spreadOfLatencies_30 ?_
        refine lv_iload hx hb dX4_spreadOfLatencies_33 (lv_at hl 0 rfl) ?_
        obtain ⟨g_3, hg_3, hg_3_⟩ := hI.1.2.1
        refine r_aald cX hw 4 rfl hg_3 (i + 1) rfl (by omega) (by decide) (hg_3_ (i + 1) (by omega)) dX4_spreadOfLatencies_35 ?_
        refine lv_aload_n hx hb dX4_spreadOfLatencies_36 rfl (lv_at hl 4 rfl) ?_
        refine r_get cX inX4 hw hI.1.1 rfl 2 (by decide) wF_X4_43 rfl dX4_spreadOfLatencies_37 ?_
        refine lv_iload_n hx hb dX4_spreadOfLatencies_40 rfl (lv_at hl 3 rfl) ?_
        refine r_Vi cX hw (hI.1.2.2.2.2.1 (i + 1) (by omega)) rfl [.int (f 0), .int size] (c_X2_ticksToArrive l G (hI.1.2.2.2.2.1 (i + 1) (by omega)) (f 0) size (hv.ger (i + 1) (by omega))) wM_X4_106 mw_X2_ticksToArrive ⟨Nat.le_of_ble_eq_true rfl, Nat.le_of_ble_eq_true rfl⟩ rfl rfl hl.1 (Nat.le_of_ble_eq_true rfl) dX4_spreadOfLatencies_41 ⟨Nat.le_of_ble_eq_true rfl, Nat.le_of_ble_eq_true rfl⟩ (fun r M1 H locs hp hw => ?_)
        obtain ⟨hr1, hq⟩ := hp
        subst hr1
        rw [hq] at hw
        refine lv_istore (lv' := [(5, .int (laF f size (i + 1))), (4, .int (nI (i + 1))), (2, .int mn), (3, .int mx), (1, .int size), (0, .ref (L 0))]) hx hb dX4_spreadOfLatencies_44 hl (by decide) rfl (fun ls hl => ?_)
        refine lv_iload_n hx hb dX4_spreadOfLatencies_46 rfl (lv_at hl 2 rfl) ?_
        refine lv_iload hx hb dX4_spreadOfLatencies_47 (lv_at hl 0 rfl) ?_
        refine r_mmin (own := RX4) (index := 109) cX hl.1 wM_X4_109 (Nat.le_of_ble_eq_true rfl) (Nat.le_of_ble_eq_true rfl) (Nat.zero_le _) (Nat.zero_le _) dX4_spreadOfLatencies_49 ?_
        refine lv_istore_n (lv' := [(2, .int (if laF f size (i + 1) < mn then laF f size (i + 1) else mn)), (5, .int (laF f size (i + 1))), (4, .int (nI (i + 1))), (3, .int mx), (1, .int size), (0, .ref (L 0))]) hx hb dX4_spreadOfLatencies_52 rfl hl (by decide) rfl (fun ls hl => ?_)
        refine lv_iload_n hx hb dX4_spreadOfLatencies_53 rfl (lv_at hl 3 rfl) ?_
        refine lv_iload hx hb dX4_spreadOfLatencies_54 (lv_at hl 1 rfl) ?_
        refine r_mmax (own := RX4) (index := 114) cX hl.1 wM_X4_114 (Nat.le_of_ble_eq_true rfl) (Nat.le_of_ble_eq_true rfl) (Nat.zero_le _) (Nat.zero_le _) dX4_spreadOfLatencies_56 ?_
        refine lv_istore_n (lv' := [(3, .int (if mx < laF f size (i + 1) then laF f size (i + 1) else mx)), (2, .int (if laF f size (i + 1) < mn then laF f size (i + 1) else mn)), (5, .int (laF f size (i + 1))), (4, .int (nI (i + 1))), (1, .int size), (0, .ref (L 0))]) hx hb dX4_spreadOfLatencies_59 rfl hl (by decide) rfl (fun ls hl => ?_)
        refine lv_iinc (v := (nI ((i + 1) + 1))) (lv' := [(4, .int (nI ((i + 1) + 1))), (3, .int (if mx < laF f size (i + 1) then laF f size (i + 1) else mx)), (2, .int (if laF f size (i + 1) < mn then laF f size (i + 1) else mn)), (5, .int (laF f size (i + 1))), (1, .int size), (0, .ref (L 0))]) hx hb dX4_spreadOfLatencies_60 hl (k := 3) rfl (nI_1 (i + 1)) (by decide) rfl (fun ls hl => ?_)
        refine lv_goto (tgt := 20) hx hb dX4_spreadOfLatencies_63 (by decide) ?_
        exact ih (i + 1) (by omega) (by omega) (if laF f size (i + 1) < mn then laF f size (i + 1) else mn) (if mx < laF f size (i + 1) then laF f size (i + 1) else mx) _ _ _ hw (by rw [hmn]; rfl) (by rw [hmx]; rfl) (lv_sub hl [0, 2, 1, 4, 5] rfl)
  exact lp20 (nP f - 1 + 1) 0 (by omega) (by omega) (laF f size 0) (laF f size 0) _ _ _ hw rfl rfl (lv_sub hl [0, 2, 1, 4, 3] rfl)

set_option maxHeartbeats 4000000 in
set_option maxRecDepth 100000 in
theorem c_X4_spreadOfBytes (l : Launch) (G : gG) {M : HM} {L : Nat → Nat} {f : Nat → Int32} (hI0 : IsSt G M L f) {B : Nat} (hv : Inv B f) : Ci l yX4_spreadOfBytes cX4_spreadOfBytes 4 .int (rd 1 0 0) G [.ref (L 0)] M (fun r M' => r = mxN (fun j => f (33 + j)) (nP f - 1) - mnN (fun j => f (33 + j)) (nP f - 1) ∧ M' = M) := by
  obtain ⟨e1, e2, e3⟩ := hv.P
  refine Ci.of (by decide) (Nat.le_of_ble_eq_true rfl) ?_
  intro p e s m args below meth c ls cX hw hlocks hr hl
  have hx := cX.1
  have hb := cX.2.1
  have hl : lv_has ls 4 [(0, .ref (L 0))] := hl
  have hI := hI0.st
  refine lv_aload_n hx hb dX4_spreadOfBytes_0 rfl (lv_at hl 0 rfl) ?_
  refine r_get cX inX4 hw hI.1.1 rfl 9 (by decide) wF_X4_11 rfl dX4_spreadOfBytes_1 ?_
  refine lv_iconst (v := 0) hx hb dX4_spreadOfBytes_4 (by decide) ?_
  obtain ⟨g_4, hg_4, hg_4_⟩ := hI.1.2.1
  refine r_aald cX hw 4 rfl hg_4 0 rfl (by decide) (by decide) (hg_4_ 0 (by decide)) dX4_spreadOfBytes_5 ?_
  refine r_get cX inX2 hw (hI.1.2.2.2.2.1 0 (by decide)) rfl 6 (by decide) wF_X4_117 rfl dX4_spreadOfBytes_6 ?_
  refine lv_istore_n (lv' := [(1, .int (f (33 + 0))), (0, .ref (L 0))]) hx hb dX4_spreadOfBytes_9 rfl hl (by decide) rfl (fun ls hl => ?_)
  refine lv_iload_n hx hb dX4_spreadOfBytes_10 rfl (lv_at hl 0 rfl) ?_
  refine lv_istore_n (lv' := [(2, .int (f (33 + 0))), (1, .int (f (33 + 0))), (0, .ref (L 0))]) hx hb dX4_spreadOfBytes_11 rfl hl (by decide) rfl (fun ls hl => ?_)
  refine lv_iconst (v := 1) hx hb dX4_spreadOfBytes_12 (by decide) ?_
  refine lv_istore_n (lv' := [(3, .int 1), (2, .int (f (33 + 0))), (1, .int (f (33 + 0))), (0, .ref (L 0))]) hx hb dX4_spreadOfBytes_13 rfl hl (by decide) rfl (fun ls hl => ?_)
  have lp14 : ∀ (nn i : Nat), i ≤ nP f - 1 → nP f - 1 < i + nn → ∀ (mn : Int32) (mx : Int32) (H : Heap) (locs : List Loc) (ls : Array Slot), Wd G (dm M s.heap.size) s.heap M H locs → mn = mnN (fun j => f (33 + j)) i → mx = mxN (fun j => f (33 + j)) i → lv_has ls 4 [(3, .int (nI (i + 1))), (1, .int mn), (2, .int mx), (0, .ref (L 0))] → W p l e (rd 1 0 0) s m args below meth c H locs 0 0 (MQ below (QI G M s.heap.size (fun r M' => r = mxN (fun j => f (33 + j)) (nP f - 1) - mnN (fun j => f (33 + j)) (nP f - 1) ∧ M' = M)) args s 0 0 (dm M s.heap.size)) (F0 m 14 ls []) := by
    intro nn
    induction nn with
    | zero =>
      intro i h1 h2
      exact absurd h2 (by omega)
    | succ nn ih =>
      intro i hi hin mn mx H locs ls hw hmn hmx hl
      refine lv_iload_n hx hb dX4_spreadOfBytes_14 rfl (lv_at hl 0 rfl) ?_
      refine lv_aload_n hx hb dX4_spreadOfBytes_15 rfl (lv_at hl 3 rfl) ?_
      refine r_get cX inX4 hw hI.1.1 rfl 0 (by decide) wF_X4_36 rfl dX4_spreadOfBytes_16 ?_
      refine lv_icmp_ge (tgt := 56) hx hb dX4_spreadOfBytes_19 (by decide) (fun c19 => ?_) (fun c19 => ?_)
      · obtain rfl : i = nP f - 1 := Nat.le_antisymm hi (by have := ix_ge (a := i + 1) (b := nP f) (by omega) (by omega) (by rw [← e3]; exact c19); omega)
        refine lv_iload_n hx hb dX4_spreadOfBytes_56 rfl (lv_at hl 2 rfl) ?_
        refine lv_iload_n hx hb dX4_spreadOfBytes_57 rfl (lv_at hl 1 rfl) ?_
        refine lv_isub hx hb dX4_spreadOfBytes_58 ?_
        exact r_iret cX hr hlocks hw ⟨by rw [hmn, hmx], rfl⟩ dX4_spreadOfBytes_59
      · have hlt : i + 1 < nP f := ix_lt (by omega) (by rw [← e3]; exact c19)
        refine lv_iload_n hx hb dX4_spreadOfBytes_22 rfl (lv_at hl 1 rfl) ?_
        refine lv_aload_n hx hb dX4_spreadOfBytes_23 rfl (lv_at hl 3 rfl) ?_
        refine r_get cX inX4 hw hI.1.1 rfl 9 (by decide) wF_X4_11 rfl dX4_spreadOfBytes_24 ?_
        refine lv_iload_n hx hb dX4_spreadOfBytes_27 rfl (lv_at hl 0 rfl) ?_
        obtain ⟨g_5, hg_5, hg_5_⟩ := hI.1.2.1
        refine r_aald cX hw 4 rfl hg_5 (i + 1) rfl (by omega) (by decide) (hg_5_ (i + 1) (by omega)) dX4_spreadOfBytes_28 ?_
        refine r_get cX inX2 hw (hI.1.2.2.2.2.1 (i + 1) (by omega)) rfl 6 (by decide) wF_X4_117 rfl dX4_spreadOfBytes_29 ?_
        refine r_mmin (own := RX4) (index := 109) cX hl.1 wM_X4_109 (Nat.le_of_ble_eq_true rfl) (Nat.le_of_ble_eq_true rfl) (Nat.zero_le _) (Nat.zero_le _) dX4_spreadOfBytes_32 ?_
        refine lv_istore_n (lv' := [(1, .int (if f (33 + (i + 1)) < mn then f (33 + (i + 1)) else mn)), (3, .int (nI (i + 1))), (2, .int mx), (0, .ref (L 0))]) hx hb dX4_spreadOfBytes_35 rfl hl (by decide) rfl (fun ls hl => ?_)
        refine lv_iload_n hx hb dX4_spreadOfBytes_36 rfl (lv_at hl 2 rfl) ?_
        refine lv_aload_n hx hb dX4_spreadOfBytes_37 rfl (lv_at hl 3 rfl) ?_
        refine r_get cX inX4 hw hI.1.1 rfl 9 (by decide) wF_X4_11 rfl dX4_spreadOfBytes_38 ?_
        refine lv_iload_n hx hb dX4_spreadOfBytes_41 rfl (lv_at hl 1 rfl) ?_
        obtain ⟨g_6, hg_6, hg_6_⟩ := hI.1.2.1
        refine r_aald cX hw 4 rfl hg_6 (i + 1) rfl (by omega) (by decide) (hg_6_ (i + 1) (by omega)) dX4_spreadOfBytes_42 ?_
        refine r_get cX inX2 hw (hI.1.2.2.2.2.1 (i + 1) (by omega)) rfl 6 (by decide) wF_X4_117 rfl dX4_spreadOfBytes_43 ?_
        refine r_mmax (own := RX4) (index := 114) cX hl.1 wM_X4_114 (Nat.le_of_ble_eq_true rfl) (Nat.le_of_ble_eq_true rfl) (Nat.zero_le _) (Nat.zero_le _) dX4_spreadOfBytes_46 ?_
        refine lv_istore_n (lv' := [(2, .int (if mx < f (33 + (i + 1)) then f (33 + (i + 1)) else mx)), (1, .int (if f (33 + (i + 1)) < mn then f (33 + (i + 1)) else mn)), (3, .int (nI (i + 1))), (0, .ref (L 0))]) hx hb dX4_spreadOfBytes_49 rfl hl (by decide) rfl (fun ls hl => ?_)
        refine lv_iinc (v := (nI ((i + 1) + 1))) (lv' := [(3, .int (nI ((i + 1) + 1))), (2, .int (if mx < f (33 + (i + 1)) then f (33 + (i + 1)) else mx)), (1, .int (if f (33 + (i + 1)) < mn then f (33 + (i + 1)) else mn)), (0, .ref (L 0))]) hx hb dX4_spreadOfBytes_50 hl (k := 2) rfl (nI_1 (i + 1)) (by decide) rfl (fun ls hl => ?_)
        refine lv_goto (tgt := 14) hx hb dX4_spreadOfBytes_53 (by decide) ?_
        exact ih (i + 1) (by omega) (by omega) (if f (33 + (i + 1)) < mn then f (33 + (i + 1)) else mn) (if mx < f (33 + (i + 1)) then f (33 + (i + 1)) else mx) _ _ _ hw (by rw [hmn]; rfl) (by rw [hmx]; rfl) (lv_sub hl [0, 2, 1, 3] rfl)
  exact lp14 (nP f - 1 + 1) 0 (by omega) (by omega) (f (33 + 0)) (f (33 + 0)) _ _ _ hw rfl rfl (lv_sub hl [0, 2, 1, 3] rfl)
