theorem min8 {c : Nat} (h : c ≤ 8) : (if (8 : Int32) < nI c + 1 then 8 else nI c + 1) = nI (min (c + 1) 8) := by
  rw [nI_1]
  show (if nI 8 < nI (c + 1) then nI 8 else nI (c + 1)) = _
  rcases Nat.lt_or_ge c 8 with q | q
  · rw [if_neg (nI_nlt (by omega) (by omega)), Nat.min_eq_left (by omega)]
  · rw [if_pos (nI_lt (by omega) (by omega)), Nat.min_eq_right (by omega)]
theorem woF01 (f : Nat → Int32) (k : Nat) (y : Int32) : woF f k y = 0 ∨ woF f k y = 1 := if01 _
set_option maxHeartbeats 4000000 in
set_option maxRecDepth 100000 in
theorem c_X6_now (l : Launch) (G : gG) {M : HM} {ad : Nat → Nat} {F : Nat → Nat → Int32} {nx ct : Nat} {fl T : Nat → Int32} {len : Nat} {tr : Nat → Int32} (hC0 : IsCl G M ad F nx ct fl T len tr) : Ci l yX6_now cX6_now 1 .int (rd 0 0 0) G [.ref (ad 0)] M (fun r M' => r = (fun f : Nat → Int32 => f 0) (F 0) ∧ M' = M) := by
  refine Ci.of (by decide) (Nat.le_of_ble_eq_true rfl) ?_
  intro p e s m args below meth c ls cX hw hlocks hr hl
  have hx := cX.1
  have hb := cX.2.1
  have hl : lv_has ls 1 [(0, .ref (ad 0))] := hl
  have hC : Cl G M M ad F nx ct fl T len tr := ⟨hC0, OffC.rf M ad 359⟩
  have hI := (hC.1.sts 0 (by decide)).st
  refine lv_aload_n hx hb dX6_now_0 rfl (lv_at hl 0 rfl) ?_
  refine r_get cX inX6 hw hC.1.1 rfl 0 (by decide) wF_X6_10 rfl dX6_now_1 ?_
  refine r_get cX inX4 hw hI.1.1 rfl 2 (by decide) wF_X6_96 rfl dX6_now_4 ?_
  exact r_iret cX hr hlocks hw ⟨rfl, rfl⟩ dX6_now_7

set_option maxHeartbeats 4000000 in
set_option maxRecDepth 100000 in
theorem c_X6_entryOf (l : Launch) (G : gG) {M : HM} {ad : Nat → Nat} {F : Nat → Nat → Int32} {nx ct : Nat} {fl T : Nat → Int32} {len : Nat} {tr : Nat → Int32} (hC0 : IsCl G M ad F nx ct fl T len tr) (x : Int32) {B : Nat} (hv : Inv B (F 0)) : Ci l yX6_entryOf cX6_entryOf 2 .int (rd 2 0 0) G [.ref (ad 0), .int x] M (fun r M' => r = q_entryOf x (F 0) ∧ M' = M) := by
  refine Ci.of (by decide) (Nat.le_of_ble_eq_true rfl) ?_
  intro p e s m args below meth c ls cX hw hlocks hr hl
  have hx := cX.1
  have hb := cX.2.1
  have hl : lv_has ls 2 [(0, .ref (ad 0)), (1, .int x)] := hl
  have hC : Cl G M M ad F nx ct fl T len tr := ⟨hC0, OffC.rf M ad 359⟩
  have hI := (hC.1.sts 0 (by decide)).st
  refine lv_iload_n hx hb dX6_entryOf_0 rfl (lv_at hl 1 rfl) ?_
  refine r_Si cX hw [.int x] (c_X6_isFlow l G x) wM_X6_99 mw_X6_isFlow ⟨Nat.le_of_ble_eq_true rfl, Nat.le_of_ble_eq_true rfl⟩ rfl rfl hl.1 (Nat.le_of_ble_eq_true rfl) dX6_entryOf_1 ⟨Nat.le_of_ble_eq_true rfl, Nat.le_of_ble_eq_true rfl⟩ (fun r M1 H locs hp hw => ?_)
  obtain ⟨hr1, hq⟩ := hp
  subst hr1
  rw [hq] at hw
  refine lv_if_eq (tgt := 18) hx hb dX6_entryOf_4 (by decide) (fun c4 => ?_) (fun c4 => ?_)
  · refine lv_iconst (v := (-1)) hx hb dX6_entryOf_18 (by decide) ?_
    exact r_iret cX hr hlocks hw ⟨by unfold q_entryOf; rw [if_neg (fun h => if01e c4 h)], rfl⟩ dX6_entryOf_19
  · refine lv_aload_n hx hb dX6_entryOf_7 rfl (lv_at hl 0 rfl) ?_
    refine r_get cX inX6 hw hC.1.1 rfl 0 (by decide) wF_X6_10 rfl dX6_entryOf_8 ?_
    refine lv_iload_n hx hb dX6_entryOf_11 rfl (lv_at hl 1 rfl) ?_
    refine r_Vi cX hw hI.1.1 rfl [.int x] (c_X4_entryNumber l G hI.1 x hv.ge2) wM_X6_109 mw_X4_entryNumber ⟨Nat.le_of_ble_eq_true rfl, Nat.le_of_ble_eq_true rfl⟩ rfl rfl hl.1 (Nat.le_of_ble_eq_true rfl) dX6_entryOf_12 ⟨Nat.le_of_ble_eq_true rfl, Nat.le_of_ble_eq_true rfl⟩ (fun r M1 H locs hp hw => ?_)
    obtain ⟨hr1, hq⟩ := hp
    subst hr1
    rw [hq] at hw
    refine lv_goto (tgt := 19) hx hb dX6_entryOf_15 (by decide) ?_
    exact r_iret cX hr hlocks hw ⟨by unfold q_entryOf; rw [if_pos (if01n c4)], rfl⟩ dX6_entryOf_19

set_option maxHeartbeats 4000000 in
set_option maxRecDepth 100000 in
theorem c_X6_isActive (l : Launch) (G : gG) {M : HM} {ad : Nat → Nat} {F : Nat → Nat → Int32} {nx ct : Nat} {fl T : Nat → Int32} {len : Nat} {tr : Nat → Int32} (hC0 : IsCl G M ad F nx ct fl T len tr) (x : Int32) {B : Nat} (hv : Inv B (F 0)) : Ci l yX6_isActive cX6_isActive 2 .int (rd 2 0 0) G [.ref (ad 0), .int x] M (fun r M' => r = q_isActive x (F 0) ∧ M' = M) := by
  refine Ci.of (by decide) (Nat.le_of_ble_eq_true rfl) ?_
  intro p e s m args below meth c ls cX hw hlocks hr hl
  have hx := cX.1
  have hb := cX.2.1
  have hl : lv_has ls 2 [(0, .ref (ad 0)), (1, .int x)] := hl
  have hC : Cl G M M ad F nx ct fl T len tr := ⟨hC0, OffC.rf M ad 359⟩
  have hI := (hC.1.sts 0 (by decide)).st
  refine lv_aload_n hx hb dX6_isActive_0 rfl (lv_at hl 0 rfl) ?_
  refine r_get cX inX6 hw hC.1.1 rfl 0 (by decide) wF_X6_10 rfl dX6_isActive_1 ?_
  refine lv_iload_n hx hb dX6_isActive_4 rfl (lv_at hl 1 rfl) ?_
  refine r_Vi cX hw hI.1.1 rfl [.int x] (c_X4_hasEntry l G hI.1 x) wM_X6_112 mw_X4_hasEntry ⟨Nat.le_of_ble_eq_true rfl, Nat.le_of_ble_eq_true rfl⟩ rfl rfl hl.1 (Nat.le_of_ble_eq_true rfl) dX6_isActive_5 ⟨Nat.le_of_ble_eq_true rfl, Nat.le_of_ble_eq_true rfl⟩ (fun r M1 H locs hp hw => ?_)
  obtain ⟨hr1, hq⟩ := hp
  subst hr1
  rw [hq] at hw
  refine lv_if_ne (tgt := 13) hx hb dX6_isActive_8 (by decide) (fun c8 => ?_) (fun c8 => ?_)
  · refine lv_aload_n hx hb dX6_isActive_13 rfl (lv_at hl 0 rfl) ?_
    refine r_get cX inX6 hw hC.1.1 rfl 0 (by decide) wF_X6_10 rfl dX6_isActive_14 ?_
    refine lv_aload_n hx hb dX6_isActive_17 rfl (lv_at hl 0 rfl) ?_
    refine r_get cX inX6 hw hC.1.1 rfl 0 (by decide) wF_X6_10 rfl dX6_isActive_18 ?_
    refine r_get cX inX4 hw hI.1.1 rfl 10 (by decide) wF_X6_115 rfl dX6_isActive_21 ?_
    refine lv_iload_n hx hb dX6_isActive_24 rfl (lv_at hl 1 rfl) ?_
    obtain ⟨g_19, hg_19, hg_19_⟩ := hI.1.2.2.1
    obtain ⟨k, hk, hkP, hxk, hxc⟩ := entry_ix hv (if01n c8)
    refine r_aald cX hw 2 rfl hg_19 k hxk hk (by decide) (hg_19_ k hk) dX6_isActive_25 ?_
    refine r_Vi cX hw hI.1.1 rfl [.ref (Lst ad 0 (8 + k))] (c_X4_isInUse l G hI.1 k hk) wM_X6_119 mw_X4_isInUse ⟨Nat.le_of_ble_eq_true rfl, Nat.le_of_ble_eq_true rfl⟩ rfl rfl hl.1 (Nat.le_of_ble_eq_true rfl) dX6_isActive_26 ⟨Nat.le_of_ble_eq_true rfl, Nat.le_of_ble_eq_true rfl⟩ (fun r M1 H locs hp hw => ?_)
    obtain ⟨hr1, hq⟩ := hp
    subst hr1
    rw [hq] at hw
    refine lv_if_eq (tgt := 36) hx hb dX6_isActive_29 (by decide) (fun c29 => ?_) (fun c29 => ?_)
    · refine lv_iconst (v := 0) hx hb dX6_isActive_36 (by decide) ?_
      exact r_iret cX hr hlocks hw ⟨by unfold q_isActive; rw [if_pos (if01n c8), hxc]; exact (if_neg (if01e c29)).symm, rfl⟩ dX6_isActive_37
    · refine lv_iconst (v := 1) hx hb dX6_isActive_32 (by decide) ?_
      refine lv_goto (tgt := 37) hx hb dX6_isActive_33 (by decide) ?_
      exact r_iret cX hr hlocks hw ⟨by unfold q_isActive; rw [if_pos (if01n c8), hxc]; exact (if_pos (if01n c29)).symm, rfl⟩ dX6_isActive_37
  · refine lv_iconst (v := (-1)) hx hb dX6_isActive_11 (by decide) ?_
    exact r_iret cX hr hlocks hw ⟨by unfold q_isActive; rw [if_neg (fun h => if01e c8 h)], rfl⟩ dX6_isActive_12

set_option maxHeartbeats 4000000 in
set_option maxRecDepth 100000 in
theorem c_X6_entryPath (l : Launch) (G : gG) {M : HM} {ad : Nat → Nat} {F : Nat → Nat → Int32} {nx ct : Nat} {fl T : Nat → Int32} {len : Nat} {tr : Nat → Int32} (hC0 : IsCl G M ad F nx ct fl T len tr) (x : Int32) {B : Nat} (hv : Inv B (F 0)) : Ci l yX6_entryPath cX6_entryPath 2 .int (rd 2 0 0) G [.ref (ad 0), .int x] M (fun r M' => r = q_entryPath x (F 0) ∧ M' = M) := by
  refine Ci.of (by decide) (Nat.le_of_ble_eq_true rfl) ?_
  intro p e s m args below meth c ls cX hw hlocks hr hl
  have hx := cX.1
  have hb := cX.2.1
  have hl : lv_has ls 2 [(0, .ref (ad 0)), (1, .int x)] := hl
  have hC : Cl G M M ad F nx ct fl T len tr := ⟨hC0, OffC.rf M ad 359⟩
  have hI := (hC.1.sts 0 (by decide)).st
  refine lv_aload_n hx hb dX6_entryPath_0 rfl (lv_at hl 0 rfl) ?_
  refine r_get cX inX6 hw hC.1.1 rfl 0 (by decide) wF_X6_10 rfl dX6_entryPath_1 ?_
  refine lv_iload_n hx hb dX6_entryPath_4 rfl (lv_at hl 1 rfl) ?_
  refine r_Vi cX hw hI.1.1 rfl [.int x] (c_X4_hasEntry l G hI.1 x) wM_X6_112 mw_X4_hasEntry ⟨Nat.le_of_ble_eq_true rfl, Nat.le_of_ble_eq_true rfl⟩ rfl rfl hl.1 (Nat.le_of_ble_eq_true rfl) dX6_entryPath_5 ⟨Nat.le_of_ble_eq_true rfl, Nat.le_of_ble_eq_true rfl⟩ (fun r M1 H locs hp hw => ?_)
  obtain ⟨hr1, hq⟩ := hp
  subst hr1
  rw [hq] at hw
  refine lv_if_eq (tgt := 26) hx hb dX6_entryPath_8 (by decide) (fun c8 => ?_) (fun c8 => ?_)
  · refine lv_iconst (v := (-1)) hx hb dX6_entryPath_26 (by decide) ?_
    exact r_iret cX hr hlocks hw ⟨by unfold q_entryPath; rw [if_neg (fun h => if01e c8 h)], rfl⟩ dX6_entryPath_27
  · refine lv_aload_n hx hb dX6_entryPath_11 rfl (lv_at hl 0 rfl) ?_
    refine r_get cX inX6 hw hC.1.1 rfl 0 (by decide) wF_X6_10 rfl dX6_entryPath_12 ?_
    refine r_get cX inX4 hw hI.1.1 rfl 10 (by decide) wF_X6_115 rfl dX6_entryPath_15 ?_
    refine lv_iload_n hx hb dX6_entryPath_18 rfl (lv_at hl 1 rfl) ?_
    obtain ⟨g_20, hg_20, hg_20_⟩ := hI.1.2.2.1
    obtain ⟨k, hk, hkP, hxk, hxc⟩ := entry_ix hv (if01n c8)
    refine r_aald cX hw 2 rfl hg_20 k hxk hk (by decide) (hg_20_ k hk) dX6_entryPath_19 ?_
    refine r_get cX inX0 hw (hI.1.2.2.2.2.2.1 k hk) rfl 1 (by decide) wF_X6_123 rfl dX6_entryPath_20 ?_
    refine lv_goto (tgt := 27) hx hb dX6_entryPath_23 (by decide) ?_
    exact r_iret cX hr hlocks hw ⟨by unfold q_entryPath; rw [if_pos (if01n c8), hxc], rfl⟩ dX6_entryPath_27

set_option maxHeartbeats 4000000 in
set_option maxRecDepth 100000 in
theorem c_X6_ageBit (l : Launch) (G : gG) {M : HM} {ad : Nat → Nat} {F : Nat → Nat → Int32} {nx ct : Nat} {fl T : Nat → Int32} {len : Nat} {tr : Nat → Int32} (hC0 : IsCl G M ad F nx ct fl T len tr) (x : Int32) {B : Nat} (hv : Inv B (F 0)) : Ci l yX6_ageBit cX6_ageBit 2 .int (rd 2 0 0) G [.ref (ad 0), .int x] M (fun r M' => r = q_ageBit x (F 0) ∧ M' = M) := by
  refine Ci.of (by decide) (Nat.le_of_ble_eq_true rfl) ?_
  intro p e s m args below meth c ls cX hw hlocks hr hl
  have hx := cX.1
  have hb := cX.2.1
  have hl : lv_has ls 2 [(0, .ref (ad 0)), (1, .int x)] := hl
  have hC : Cl G M M ad F nx ct fl T len tr := ⟨hC0, OffC.rf M ad 359⟩
  have hI := (hC.1.sts 0 (by decide)).st
  refine lv_aload_n hx hb dX6_ageBit_0 rfl (lv_at hl 0 rfl) ?_
  refine r_get cX inX6 hw hC.1.1 rfl 0 (by decide) wF_X6_10 rfl dX6_ageBit_1 ?_
  refine lv_iload_n hx hb dX6_ageBit_4 rfl (lv_at hl 1 rfl) ?_
  refine r_Vi cX hw hI.1.1 rfl [.int x] (c_X4_hasEntry l G hI.1 x) wM_X6_112 mw_X4_hasEntry ⟨Nat.le_of_ble_eq_true rfl, Nat.le_of_ble_eq_true rfl⟩ rfl rfl hl.1 (Nat.le_of_ble_eq_true rfl) dX6_ageBit_5 ⟨Nat.le_of_ble_eq_true rfl, Nat.le_of_ble_eq_true rfl⟩ (fun r M1 H locs hp hw => ?_)
  obtain ⟨hr1, hq⟩ := hp
  subst hr1
  rw [hq] at hw
  refine lv_if_ne (tgt := 13) hx hb dX6_ageBit_8 (by decide) (fun c8 => ?_) (fun c8 => ?_)
  · refine lv_aload_n hx hb dX6_ageBit_13 rfl (lv_at hl 0 rfl) ?_
    refine r_get cX inX6 hw hC.1.1 rfl 0 (by decide) wF_X6_10 rfl dX6_ageBit_14 ?_
    refine r_get cX inX4 hw hI.1.1 rfl 10 (by decide) wF_X6_115 rfl dX6_ageBit_17 ?_
    refine lv_iload_n hx hb dX6_ageBit_20 rfl (lv_at hl 1 rfl) ?_
    obtain ⟨g_21, hg_21, hg_21_⟩ := hI.1.2.2.1
    obtain ⟨k, hk, hkP, hxk, hxc⟩ := entry_ix hv (if01n c8)
    refine r_aald cX hw 2 rfl hg_21 k hxk hk (by decide) (hg_21_ k hk) dX6_ageBit_21 ?_
    refine r_get cX inX0 hw (hI.1.2.2.2.2.2.1 k hk) rfl 0 (by decide) wF_X6_128 rfl dX6_ageBit_22 ?_
    refine lv_if_eq (tgt := 43) hx hb dX6_ageBit_25 (by decide) (fun c25 => ?_) (fun c25 => ?_)
    · refine lv_bipush (v := (-9)) hx hb dX6_ageBit_43 (by decide) ?_
      exact r_iret cX hr hlocks hw ⟨by unfold q_ageBit; rw [if_pos (if01n c8), hxc]; rw [if_neg (by rw [c25]; decide)], rfl⟩ dX6_ageBit_45
    · refine lv_aload_n hx hb dX6_ageBit_28 rfl (lv_at hl 0 rfl) ?_
      refine r_get cX inX6 hw hC.1.1 rfl 0 (by decide) wF_X6_10 rfl dX6_ageBit_29 ?_
      refine r_get cX inX4 hw hI.1.1 rfl 10 (by decide) wF_X6_115 rfl dX6_ageBit_32 ?_
      refine lv_iload_n hx hb dX6_ageBit_35 rfl (lv_at hl 1 rfl) ?_
      obtain ⟨g_22, hg_22, hg_22_⟩ := hI.1.2.2.1
      refine r_aald cX hw 2 rfl hg_22 k hxk hk (by decide) (hg_22_ k hk) dX6_ageBit_36 ?_
      refine r_get cX inX0 hw (hI.1.2.2.2.2.2.1 k hk) rfl 3 (by decide) wF_X6_132 rfl dX6_ageBit_37 ?_
      refine lv_goto (tgt := 45) hx hb dX6_ageBit_40 (by decide) ?_
      exact r_iret cX hr hlocks hw ⟨by unfold q_ageBit; rw [if_pos (if01n c8), hxc]; rw [if_pos ((hI.1.2.2.2.2.2.2.2.2 k hk).resolve_left c25)], rfl⟩ dX6_ageBit_45
  · refine lv_iconst (v := (-1)) hx hb dX6_ageBit_11 (by decide) ?_
    exact r_iret cX hr hlocks hw ⟨by unfold q_ageBit; rw [if_neg (fun h => if01e c8 h)], rfl⟩ dX6_ageBit_12

set_option maxHeartbeats 4000000 in
set_option maxRecDepth 100000 in
theorem c_X6_idleTime (l : Launch) (G : gG) {M : HM} {ad : Nat → Nat} {F : Nat → Nat → Int32} {nx ct : Nat} {fl T : Nat → Int32} {len : Nat} {tr : Nat → Int32} (hC0 : IsCl G M ad F nx ct fl T len tr) (x : Int32) {B : Nat} (hv : Inv B (F 0)) : Ci l yX6_idleTime cX6_idleTime 2 .int (rd 2 0 0) G [.ref (ad 0), .int x] M (fun r M' => r = q_idle x (F 0) ∧ M' = M) := by
  refine Ci.of (by decide) (Nat.le_of_ble_eq_true rfl) ?_
  intro p e s m args below meth c ls cX hw hlocks hr hl
  have hx := cX.1
  have hb := cX.2.1
  have hl : lv_has ls 2 [(0, .ref (ad 0)), (1, .int x)] := hl
  have hC : Cl G M M ad F nx ct fl T len tr := ⟨hC0, OffC.rf M ad 359⟩
  have hI := (hC.1.sts 0 (by decide)).st
  refine lv_aload_n hx hb dX6_idleTime_0 rfl (lv_at hl 0 rfl) ?_
  refine r_get cX inX6 hw hC.1.1 rfl 0 (by decide) wF_X6_10 rfl dX6_idleTime_1 ?_
  refine lv_iload_n hx hb dX6_idleTime_4 rfl (lv_at hl 1 rfl) ?_
  refine r_Vi cX hw hI.1.1 rfl [.int x] (c_X4_hasEntry l G hI.1 x) wM_X6_112 mw_X4_hasEntry ⟨Nat.le_of_ble_eq_true rfl, Nat.le_of_ble_eq_true rfl⟩ rfl rfl hl.1 (Nat.le_of_ble_eq_true rfl) dX6_idleTime_5 ⟨Nat.le_of_ble_eq_true rfl, Nat.le_of_ble_eq_true rfl⟩ (fun r M1 H locs hp hw => ?_)
  obtain ⟨hr1, hq⟩ := hp
  subst hr1
  rw [hq] at hw
  refine lv_if_ne (tgt := 13) hx hb dX6_idleTime_8 (by decide) (fun c8 => ?_) (fun c8 => ?_)
  · refine lv_aload_n hx hb dX6_idleTime_13 rfl (lv_at hl 0 rfl) ?_
    refine r_get cX inX6 hw hC.1.1 rfl 0 (by decide) wF_X6_10 rfl dX6_idleTime_14 ?_
    refine r_get cX inX4 hw hI.1.1 rfl 10 (by decide) wF_X6_115 rfl dX6_idleTime_17 ?_
    refine lv_iload_n hx hb dX6_idleTime_20 rfl (lv_at hl 1 rfl) ?_
    obtain ⟨g_23, hg_23, hg_23_⟩ := hI.1.2.2.1
    obtain ⟨k, hk, hkP, hxk, hxc⟩ := entry_ix hv (if01n c8)
    refine r_aald cX hw 2 rfl hg_23 k hxk hk (by decide) (hg_23_ k hk) dX6_idleTime_21 ?_
    refine r_Vi cX hw (hI.1.2.2.2.2.2.1 k hk) rfl [] (c_X0_isUnused l G (hI.1.2.2.2.2.2.1 k hk)) wM_X6_135 mw_X0_isUnused ⟨Nat.le_of_ble_eq_true rfl, Nat.le_of_ble_eq_true rfl⟩ rfl rfl hl.1 (Nat.le_of_ble_eq_true rfl) dX6_idleTime_22 ⟨Nat.le_of_ble_eq_true rfl, Nat.le_of_ble_eq_true rfl⟩ (fun r M1 H locs hp hw => ?_)
    obtain ⟨hr1, hq⟩ := hp
    subst hr1
    rw [hq] at hw
    refine lv_if_eq (tgt := 33) hx hb dX6_idleTime_25 (by decide) (fun c25 => ?_) (fun c25 => ?_)
    · refine lv_aload_n hx hb dX6_idleTime_33 rfl (lv_at hl 0 rfl) ?_
      refine r_get cX inX6 hw hC.1.1 rfl 0 (by decide) wF_X6_10 rfl dX6_idleTime_34 ?_
      refine r_get cX inX4 hw hI.1.1 rfl 2 (by decide) wF_X6_96 rfl dX6_idleTime_37 ?_
      refine lv_aload_n hx hb dX6_idleTime_40 rfl (lv_at hl 0 rfl) ?_
      refine r_get cX inX6 hw hC.1.1 rfl 0 (by decide) wF_X6_10 rfl dX6_idleTime_41 ?_
      refine r_get cX inX4 hw hI.1.1 rfl 10 (by decide) wF_X6_115 rfl dX6_idleTime_44 ?_
      refine lv_iload_n hx hb dX6_idleTime_47 rfl (lv_at hl 1 rfl) ?_
      obtain ⟨g_24, hg_24, hg_24_⟩ := hI.1.2.2.1
      refine r_aald cX hw 2 rfl hg_24 k hxk hk (by decide) (hg_24_ k hk) dX6_idleTime_48 ?_
      refine r_get cX inX0 hw (hI.1.2.2.2.2.2.1 k hk) rfl 2 (by decide) wF_X6_139 rfl dX6_idleTime_49 ?_
      refine lv_isub hx hb dX6_idleTime_52 ?_
      exact r_iret cX hr hlocks hw ⟨by unfold q_idle; rw [if_pos (if01n c8), hxc]; rw [if_neg (if01e c25)], rfl⟩ dX6_idleTime_53
    · refine lv_bipush (v := (-9)) hx hb dX6_idleTime_28 (by decide) ?_
      refine lv_goto (tgt := 53) hx hb dX6_idleTime_30 (by decide) ?_
      exact r_iret cX hr hlocks hw ⟨by unfold q_idle; rw [if_pos (if01n c8), hxc]; rw [if_pos (if01n c25)], rfl⟩ dX6_idleTime_53
  · refine lv_iconst (v := (-1)) hx hb dX6_idleTime_11 (by decide) ?_
    exact r_iret cX hr hlocks hw ⟨by unfold q_idle; rw [if_neg (fun h => if01e c8 h)], rfl⟩ dX6_idleTime_12

set_option maxHeartbeats 4000000 in
set_option maxRecDepth 100000 in
theorem c_X6_activeEntries (l : Launch) (G : gG) {M : HM} {ad : Nat → Nat} {F : Nat → Nat → Int32} {nx ct : Nat} {fl T : Nat → Int32} {len : Nat} {tr : Nat → Int32} (hC0 : IsCl G M ad F nx ct fl T len tr) {B : Nat} (hv : Inv B (F 0)) : Ci l yX6_activeEntries cX6_activeEntries 1 .int (rd 2 0 0) G [.ref (ad 0)] M (fun r M' => r = (fun f => acN f (nE f)) (F 0) ∧ M' = M) := by
  refine Ci.of (by decide) (Nat.le_of_ble_eq_true rfl) ?_
  intro p e s m args below meth c ls cX hw hlocks hr hl
  have hx := cX.1
  have hb := cX.2.1
  have hl : lv_has ls 1 [(0, .ref (ad 0))] := hl
  have hC : Cl G M M ad F nx ct fl T len tr := ⟨hC0, OffC.rf M ad 359⟩
  have hI := (hC.1.sts 0 (by decide)).st
  refine lv_aload_n hx hb dX6_activeEntries_0 rfl (lv_at hl 0 rfl) ?_
  refine r_get cX inX6 hw hC.1.1 rfl 0 (by decide) wF_X6_10 rfl dX6_activeEntries_1 ?_
  refine r_Vi cX hw hI.1.1 rfl [] (c_X4_countEntriesInUse l G hI.1 hv) wM_X6_142 mw_X4_countEntriesInUse ⟨Nat.le_of_ble_eq_true rfl, Nat.le_of_ble_eq_true rfl⟩ rfl rfl hl.1 (Nat.le_of_ble_eq_true rfl) dX6_activeEntries_4 ⟨Nat.le_of_ble_eq_true rfl, Nat.le_of_ble_eq_true rfl⟩ (fun r M1 H locs hp hw => ?_)
  obtain ⟨hr1, hq⟩ := hp
  subst hr1
  rw [hq] at hw
  exact r_iret cX hr hlocks hw ⟨rfl, rfl⟩ dX6_activeEntries_7

set_option maxHeartbeats 4000000 in
set_option maxRecDepth 100000 in
theorem c_X6_load (l : Launch) (G : gG) {M : HM} {ad : Nat → Nat} {F : Nat → Nat → Int32} {nx ct : Nat} {fl T : Nat → Int32} {len : Nat} {tr : Nat → Int32} (hC0 : IsCl G M ad F nx ct fl T len tr) (x : Int32) {B : Nat} (hv : Inv B (F 0)) : Ci l yX6_load cX6_load 2 .int (rd 2 0 0) G [.ref (ad 0), .int x] M (fun r M' => r = q_pth 21 x (F 0) ∧ M' = M) := by
  refine Ci.of (by decide) (Nat.le_of_ble_eq_true rfl) ?_
  intro p e s m args below meth c ls cX hw hlocks hr hl
  have hx := cX.1
  have hb := cX.2.1
  have hl : lv_has ls 2 [(0, .ref (ad 0)), (1, .int x)] := hl
  have hC : Cl G M M ad F nx ct fl T len tr := ⟨hC0, OffC.rf M ad 359⟩
  have hI := (hC.1.sts 0 (by decide)).st
  refine lv_aload_n hx hb dX6_load_0 rfl (lv_at hl 0 rfl) ?_
  refine r_get cX inX6 hw hC.1.1 rfl 0 (by decide) wF_X6_10 rfl dX6_load_1 ?_
  refine lv_iload_n hx hb dX6_load_4 rfl (lv_at hl 1 rfl) ?_
  refine r_Vi cX hw hI.1.1 rfl [.int x] (c_X4_hasPath l G hI.1 x) wM_X6_54 mw_X4_hasPath ⟨Nat.le_of_ble_eq_true rfl, Nat.le_of_ble_eq_true rfl⟩ rfl rfl hl.1 (Nat.le_of_ble_eq_true rfl) dX6_load_5 ⟨Nat.le_of_ble_eq_true rfl, Nat.le_of_ble_eq_true rfl⟩ (fun r M1 H locs hp hw => ?_)
  obtain ⟨hr1, hq⟩ := hp
  subst hr1
  rw [hq] at hw
  refine lv_if_eq (tgt := 26) hx hb dX6_load_8 (by decide) (fun c8 => ?_) (fun c8 => ?_)
  · refine lv_iconst (v := (-1)) hx hb dX6_load_26 (by decide) ?_
    exact r_iret cX hr hlocks hw ⟨by unfold q_pth; rw [if_neg (fun h => if01e c8 h)], rfl⟩ dX6_load_27
  · refine lv_aload_n hx hb dX6_load_11 rfl (lv_at hl 0 rfl) ?_
    refine r_get cX inX6 hw hC.1.1 rfl 0 (by decide) wF_X6_10 rfl dX6_load_12 ?_
    refine r_get cX inX4 hw hI.1.1 rfl 9 (by decide) wF_X6_58 rfl dX6_load_15 ?_
    refine lv_iload_n hx hb dX6_load_18 rfl (lv_at hl 1 rfl) ?_
    obtain ⟨g_25, hg_25, hg_25_⟩ := hI.1.2.1
    obtain ⟨k, hk, hkP, hxk, hxc⟩ := path_ix hv (if01n c8)
    refine r_aald cX hw 4 rfl hg_25 k hxk hk (by decide) (hg_25_ k hk) dX6_load_19 ?_
    refine r_get cX inX2 hw (hI.1.2.2.2.2.1 k hk) rfl 3 (by decide) wF_X6_146 rfl dX6_load_20 ?_
    refine lv_goto (tgt := 27) hx hb dX6_load_23 (by decide) ?_
    exact r_iret cX hr hlocks hw ⟨by unfold q_pth; rw [if_pos (if01n c8), hxc], rfl⟩ dX6_load_27

set_option maxHeartbeats 4000000 in
set_option maxRecDepth 100000 in
theorem c_X6_packets (l : Launch) (G : gG) {M : HM} {ad : Nat → Nat} {F : Nat → Nat → Int32} {nx ct : Nat} {fl T : Nat → Int32} {len : Nat} {tr : Nat → Int32} (hC0 : IsCl G M ad F nx ct fl T len tr) (x : Int32) {B : Nat} (hv : Inv B (F 0)) : Ci l yX6_packets cX6_packets 2 .int (rd 2 0 0) G [.ref (ad 0), .int x] M (fun r M' => r = q_pth 29 x (F 0) ∧ M' = M) := by
  refine Ci.of (by decide) (Nat.le_of_ble_eq_true rfl) ?_
  intro p e s m args below meth c ls cX hw hlocks hr hl
  have hx := cX.1
  have hb := cX.2.1
  have hl : lv_has ls 2 [(0, .ref (ad 0)), (1, .int x)] := hl
  have hC : Cl G M M ad F nx ct fl T len tr := ⟨hC0, OffC.rf M ad 359⟩
  have hI := (hC.1.sts 0 (by decide)).st
  refine lv_aload_n hx hb dX6_packets_0 rfl (lv_at hl 0 rfl) ?_
  refine r_get cX inX6 hw hC.1.1 rfl 0 (by decide) wF_X6_10 rfl dX6_packets_1 ?_
  refine lv_iload_n hx hb dX6_packets_4 rfl (lv_at hl 1 rfl) ?_
  refine r_Vi cX hw hI.1.1 rfl [.int x] (c_X4_hasPath l G hI.1 x) wM_X6_54 mw_X4_hasPath ⟨Nat.le_of_ble_eq_true rfl, Nat.le_of_ble_eq_true rfl⟩ rfl rfl hl.1 (Nat.le_of_ble_eq_true rfl) dX6_packets_5 ⟨Nat.le_of_ble_eq_true rfl, Nat.le_of_ble_eq_true rfl⟩ (fun r M1 H locs hp hw => ?_)
  obtain ⟨hr1, hq⟩ := hp
  subst hr1
  rw [hq] at hw
  refine lv_if_eq (tgt := 26) hx hb dX6_packets_8 (by decide) (fun c8 => ?_) (fun c8 => ?_)
  · refine lv_iconst (v := (-1)) hx hb dX6_packets_26 (by decide) ?_
    exact r_iret cX hr hlocks hw ⟨by unfold q_pth; rw [if_neg (fun h => if01e c8 h)], rfl⟩ dX6_packets_27
  · refine lv_aload_n hx hb dX6_packets_11 rfl (lv_at hl 0 rfl) ?_
    refine r_get cX inX6 hw hC.1.1 rfl 0 (by decide) wF_X6_10 rfl dX6_packets_12 ?_
    refine r_get cX inX4 hw hI.1.1 rfl 9 (by decide) wF_X6_58 rfl dX6_packets_15 ?_
    refine lv_iload_n hx hb dX6_packets_18 rfl (lv_at hl 1 rfl) ?_
    obtain ⟨g_26, hg_26, hg_26_⟩ := hI.1.2.1
    obtain ⟨k, hk, hkP, hxk, hxc⟩ := path_ix hv (if01n c8)
    refine r_aald cX hw 4 rfl hg_26 k hxk hk (by decide) (hg_26_ k hk) dX6_packets_19 ?_
    refine r_get cX inX2 hw (hI.1.2.2.2.2.1 k hk) rfl 5 (by decide) wF_X6_161 rfl dX6_packets_20 ?_
    refine lv_goto (tgt := 27) hx hb dX6_packets_23 (by decide) ?_
    exact r_iret cX hr hlocks hw ⟨by unfold q_pth; rw [if_pos (if01n c8), hxc], rfl⟩ dX6_packets_27

set_option maxHeartbeats 4000000 in
set_option maxRecDepth 100000 in
theorem c_X6_bytes (l : Launch) (G : gG) {M : HM} {ad : Nat → Nat} {F : Nat → Nat → Int32} {nx ct : Nat} {fl T : Nat → Int32} {len : Nat} {tr : Nat → Int32} (hC0 : IsCl G M ad F nx ct fl T len tr) (x : Int32) {B : Nat} (hv : Inv B (F 0)) : Ci l yX6_bytes cX6_bytes 2 .int (rd 2 0 0) G [.ref (ad 0), .int x] M (fun r M' => r = q_pth 33 x (F 0) ∧ M' = M) := by
  refine Ci.of (by decide) (Nat.le_of_ble_eq_true rfl) ?_
  intro p e s m args below meth c ls cX hw hlocks hr hl
  have hx := cX.1
  have hb := cX.2.1
  have hl : lv_has ls 2 [(0, .ref (ad 0)), (1, .int x)] := hl
  have hC : Cl G M M ad F nx ct fl T len tr := ⟨hC0, OffC.rf M ad 359⟩
  have hI := (hC.1.sts 0 (by decide)).st
  refine lv_aload_n hx hb dX6_bytes_0 rfl (lv_at hl 0 rfl) ?_
  refine r_get cX inX6 hw hC.1.1 rfl 0 (by decide) wF_X6_10 rfl dX6_bytes_1 ?_
  refine lv_iload_n hx hb dX6_bytes_4 rfl (lv_at hl 1 rfl) ?_
  refine r_Vi cX hw hI.1.1 rfl [.int x] (c_X4_hasPath l G hI.1 x) wM_X6_54 mw_X4_hasPath ⟨Nat.le_of_ble_eq_true rfl, Nat.le_of_ble_eq_true rfl⟩ rfl rfl hl.1 (Nat.le_of_ble_eq_true rfl) dX6_bytes_5 ⟨Nat.le_of_ble_eq_true rfl, Nat.le_of_ble_eq_true rfl⟩ (fun r M1 H locs hp hw => ?_)
  obtain ⟨hr1, hq⟩ := hp
  subst hr1
  rw [hq] at hw
  refine lv_if_eq (tgt := 26) hx hb dX6_bytes_8 (by decide) (fun c8 => ?_) (fun c8 => ?_)
  · refine lv_iconst (v := (-1)) hx hb dX6_bytes_26 (by decide) ?_
    exact r_iret cX hr hlocks hw ⟨by unfold q_pth; rw [if_neg (fun h => if01e c8 h)], rfl⟩ dX6_bytes_27
  · refine lv_aload_n hx hb dX6_bytes_11 rfl (lv_at hl 0 rfl) ?_
    refine r_get cX inX6 hw hC.1.1 rfl 0 (by decide) wF_X6_10 rfl dX6_bytes_12 ?_
    refine r_get cX inX4 hw hI.1.1 rfl 9 (by decide) wF_X6_58 rfl dX6_bytes_15 ?_
    refine lv_iload_n hx hb dX6_bytes_18 rfl (lv_at hl 1 rfl) ?_
    obtain ⟨g_27, hg_27, hg_27_⟩ := hI.1.2.1
    obtain ⟨k, hk, hkP, hxk, hxc⟩ := path_ix hv (if01n c8)
    refine r_aald cX hw 4 rfl hg_27 k hxk hk (by decide) (hg_27_ k hk) dX6_bytes_19 ?_
    refine r_get cX inX2 hw (hI.1.2.2.2.2.1 k hk) rfl 6 (by decide) wF_X6_164 rfl dX6_bytes_20 ?_
    refine lv_goto (tgt := 27) hx hb dX6_bytes_23 (by decide) ?_
    exact r_iret cX hr hlocks hw ⟨by unfold q_pth; rw [if_pos (if01n c8), hxc], rfl⟩ dX6_bytes_27

set_option maxHeartbeats 4000000 in
set_option maxRecDepth 100000 in
theorem c_X6_drops (l : Launch) (G : gG) {M : HM} {ad : Nat → Nat} {F : Nat → Nat → Int32} {nx ct : Nat} {fl T : Nat → Int32} {len : Nat} {tr : Nat → Int32} (hC0 : IsCl G M ad F nx ct fl T len tr) (x : Int32) {B : Nat} (hv : Inv B (F 0)) : Ci l yX6_drops cX6_drops 2 .int (rd 2 0 0) G [.ref (ad 0), .int x] M (fun r M' => r = q_pth 37 x (F 0) ∧ M' = M) := by
  refine Ci.of (by decide) (Nat.le_of_ble_eq_true rfl) ?_
  intro p e s m args below meth c ls cX hw hlocks hr hl
  have hx := cX.1
  have hb := cX.2.1
  have hl : lv_has ls 2 [(0, .ref (ad 0)), (1, .int x)] := hl
  have hC : Cl G M M ad F nx ct fl T len tr := ⟨hC0, OffC.rf M ad 359⟩
  have hI := (hC.1.sts 0 (by decide)).st
  refine lv_aload_n hx hb dX6_drops_0 rfl (lv_at hl 0 rfl) ?_
  refine r_get cX inX6 hw hC.1.1 rfl 0 (by decide) wF_X6_10 rfl dX6_drops_1 ?_
  refine lv_iload_n hx hb dX6_drops_4 rfl (lv_at hl 1 rfl) ?_
  refine r_Vi cX hw hI.1.1 rfl [.int x] (c_X4_hasPath l G hI.1 x) wM_X6_54 mw_X4_hasPath ⟨Nat.le_of_ble_eq_true rfl, Nat.le_of_ble_eq_true rfl⟩ rfl rfl hl.1 (Nat.le_of_ble_eq_true rfl) dX6_drops_5 ⟨Nat.le_of_ble_eq_true rfl, Nat.le_of_ble_eq_true rfl⟩ (fun r M1 H locs hp hw => ?_)
  obtain ⟨hr1, hq⟩ := hp
  subst hr1
  rw [hq] at hw
  refine lv_if_eq (tgt := 26) hx hb dX6_drops_8 (by decide) (fun c8 => ?_) (fun c8 => ?_)
  · refine lv_iconst (v := (-1)) hx hb dX6_drops_26 (by decide) ?_
    exact r_iret cX hr hlocks hw ⟨by unfold q_pth; rw [if_neg (fun h => if01e c8 h)], rfl⟩ dX6_drops_27
  · refine lv_aload_n hx hb dX6_drops_11 rfl (lv_at hl 0 rfl) ?_
    refine r_get cX inX6 hw hC.1.1 rfl 0 (by decide) wF_X6_10 rfl dX6_drops_12 ?_
    refine r_get cX inX4 hw hI.1.1 rfl 9 (by decide) wF_X6_58 rfl dX6_drops_15 ?_
    refine lv_iload_n hx hb dX6_drops_18 rfl (lv_at hl 1 rfl) ?_
    obtain ⟨g_28, hg_28, hg_28_⟩ := hI.1.2.1
    obtain ⟨k, hk, hkP, hxk, hxc⟩ := path_ix hv (if01n c8)
    refine r_aald cX hw 4 rfl hg_28 k hxk hk (by decide) (hg_28_ k hk) dX6_drops_19 ?_
    refine r_get cX inX2 hw (hI.1.2.2.2.2.1 k hk) rfl 7 (by decide) wF_X6_167 rfl dX6_drops_20 ?_
    refine lv_goto (tgt := 27) hx hb dX6_drops_23 (by decide) ?_
    exact r_iret cX hr hlocks hw ⟨by unfold q_pth; rw [if_pos (if01n c8), hxc], rfl⟩ dX6_drops_27

set_option maxHeartbeats 4000000 in
set_option maxRecDepth 100000 in
theorem c_X6_metric (l : Launch) (G : gG) {M : HM} {ad : Nat → Nat} {F : Nat → Nat → Int32} {nx ct : Nat} {fl T : Nat → Int32} {len : Nat} {tr : Nat → Int32} (hC0 : IsCl G M ad F nx ct fl T len tr) (x : Int32) {B : Nat} (hv : Inv B (F 0)) : Ci l yX6_metric cX6_metric 2 .int (rd 2 0 0) G [.ref (ad 0), .int x] M (fun r M' => r = q_metric x (F 0) ∧ M' = M) := by
  refine Ci.of (by decide) (Nat.le_of_ble_eq_true rfl) ?_
  intro p e s m args below meth c ls cX hw hlocks hr hl
  have hx := cX.1
  have hb := cX.2.1
  have hl : lv_has ls 2 [(0, .ref (ad 0)), (1, .int x)] := hl
  have hC : Cl G M M ad F nx ct fl T len tr := ⟨hC0, OffC.rf M ad 359⟩
  have hI := (hC.1.sts 0 (by decide)).st
  refine lv_aload_n hx hb dX6_metric_0 rfl (lv_at hl 0 rfl) ?_
  refine r_get cX inX6 hw hC.1.1 rfl 0 (by decide) wF_X6_10 rfl dX6_metric_1 ?_
  refine lv_iload_n hx hb dX6_metric_4 rfl (lv_at hl 1 rfl) ?_
  refine r_Vi cX hw hI.1.1 rfl [.int x] (c_X4_hasPath l G hI.1 x) wM_X6_54 mw_X4_hasPath ⟨Nat.le_of_ble_eq_true rfl, Nat.le_of_ble_eq_true rfl⟩ rfl rfl hl.1 (Nat.le_of_ble_eq_true rfl) dX6_metric_5 ⟨Nat.le_of_ble_eq_true rfl, Nat.le_of_ble_eq_true rfl⟩ (fun r M1 H locs hp hw => ?_)
  obtain ⟨hr1, hq⟩ := hp
  subst hr1
  rw [hq] at hw
  refine lv_if_eq (tgt := 26) hx hb dX6_metric_8 (by decide) (fun c8 => ?_) (fun c8 => ?_)
  · refine lv_iconst (v := (-1)) hx hb dX6_metric_26 (by decide) ?_
    exact r_iret cX hr hlocks hw ⟨by unfold q_metric; rw [if_neg (fun h => if01e c8 h)], rfl⟩ dX6_metric_27
  · refine lv_aload_n hx hb dX6_metric_11 rfl (lv_at hl 0 rfl) ?_
    refine r_get cX inX6 hw hC.1.1 rfl 0 (by decide) wF_X6_10 rfl dX6_metric_12 ?_
    refine r_get cX inX4 hw hI.1.1 rfl 9 (by decide) wF_X6_58 rfl dX6_metric_15 ?_
    refine lv_iload_n hx hb dX6_metric_18 rfl (lv_at hl 1 rfl) ?_
    obtain ⟨g_29, hg_29, hg_29_⟩ := hI.1.2.1
    obtain ⟨k, hk, hkP, hxk, hxc⟩ := path_ix hv (if01n c8)
    refine r_aald cX hw 4 rfl hg_29 k hxk hk (by decide) (hg_29_ k hk) dX6_metric_19 ?_
    refine r_Vi cX hw (hI.1.2.2.2.2.1 k hk) rfl [] (c_X2_congestion l G (hI.1.2.2.2.2.1 k hk)) wM_X6_149 mw_X2_congestion ⟨Nat.le_of_ble_eq_true rfl, Nat.le_of_ble_eq_true rfl⟩ rfl rfl hl.1 (Nat.le_of_ble_eq_true rfl) dX6_metric_20 ⟨Nat.le_of_ble_eq_true rfl, Nat.le_of_ble_eq_true rfl⟩ (fun r M1 H locs hp hw => ?_)
    obtain ⟨hr1, hq⟩ := hp
    subst hr1
    rw [hq] at hw
    refine lv_goto (tgt := 27) hx hb dX6_metric_23 (by decide) ?_
    exact r_iret cX hr hlocks hw ⟨by unfold q_metric; rw [if_pos (if01n c8), hxc]; rfl, rfl⟩ dX6_metric_27

set_option maxHeartbeats 4000000 in
set_option maxRecDepth 100000 in
theorem c_X6_busyTime (l : Launch) (G : gG) {M : HM} {ad : Nat → Nat} {F : Nat → Nat → Int32} {nx ct : Nat} {fl T : Nat → Int32} {len : Nat} {tr : Nat → Int32} (hC0 : IsCl G M ad F nx ct fl T len tr) (x : Int32) {B : Nat} (hv : Inv B (F 0)) : Ci l yX6_busyTime cX6_busyTime 2 .int (rd 2 0 0) G [.ref (ad 0), .int x] M (fun r M' => r = q_busy x (F 0) ∧ M' = M) := by
  refine Ci.of (by decide) (Nat.le_of_ble_eq_true rfl) ?_
  intro p e s m args below meth c ls cX hw hlocks hr hl
  have hx := cX.1
  have hb := cX.2.1
  have hl : lv_has ls 2 [(0, .ref (ad 0)), (1, .int x)] := hl
  have hC : Cl G M M ad F nx ct fl T len tr := ⟨hC0, OffC.rf M ad 359⟩
  have hI := (hC.1.sts 0 (by decide)).st
  refine lv_aload_n hx hb dX6_busyTime_0 rfl (lv_at hl 0 rfl) ?_
  refine r_get cX inX6 hw hC.1.1 rfl 0 (by decide) wF_X6_10 rfl dX6_busyTime_1 ?_
  refine lv_iload_n hx hb dX6_busyTime_4 rfl (lv_at hl 1 rfl) ?_
  refine r_Vi cX hw hI.1.1 rfl [.int x] (c_X4_hasPath l G hI.1 x) wM_X6_54 mw_X4_hasPath ⟨Nat.le_of_ble_eq_true rfl, Nat.le_of_ble_eq_true rfl⟩ rfl rfl hl.1 (Nat.le_of_ble_eq_true rfl) dX6_busyTime_5 ⟨Nat.le_of_ble_eq_true rfl, Nat.le_of_ble_eq_true rfl⟩ (fun r M1 H locs hp hw => ?_)
  obtain ⟨hr1, hq⟩ := hp
  subst hr1
  rw [hq] at hw
  refine lv_if_eq (tgt := 33) hx hb dX6_busyTime_8 (by decide) (fun c8 => ?_) (fun c8 => ?_)
  · refine lv_iconst (v := (-1)) hx hb dX6_busyTime_33 (by decide) ?_
    exact r_iret cX hr hlocks hw ⟨by unfold q_busy; rw [if_neg (fun h => if01e c8 h)], rfl⟩ dX6_busyTime_34
  · refine lv_aload_n hx hb dX6_busyTime_11 rfl (lv_at hl 0 rfl) ?_
    refine r_get cX inX6 hw hC.1.1 rfl 0 (by decide) wF_X6_10 rfl dX6_busyTime_12 ?_
    refine r_get cX inX4 hw hI.1.1 rfl 9 (by decide) wF_X6_58 rfl dX6_busyTime_15 ?_
    refine lv_iload_n hx hb dX6_busyTime_18 rfl (lv_at hl 1 rfl) ?_
    obtain ⟨g_30, hg_30, hg_30_⟩ := hI.1.2.1
    obtain ⟨k, hk, hkP, hxk, hxc⟩ := path_ix hv (if01n c8)
    refine r_aald cX hw 4 rfl hg_30 k hxk hk (by decide) (hg_30_ k hk) dX6_busyTime_19 ?_
    refine lv_aload_n hx hb dX6_busyTime_20 rfl (lv_at hl 0 rfl) ?_
    refine r_get cX inX6 hw hC.1.1 rfl 0 (by decide) wF_X6_10 rfl dX6_busyTime_21 ?_
    refine r_get cX inX4 hw hI.1.1 rfl 2 (by decide) wF_X6_96 rfl dX6_busyTime_24 ?_
    refine r_Vi cX hw (hI.1.2.2.2.2.1 k hk) rfl [.int ((F 0) 0)] (c_X2_waitAt l G (hI.1.2.2.2.2.1 k hk) (F 0 0)) wM_X6_152 mw_X2_waitAt ⟨Nat.le_of_ble_eq_true rfl, Nat.le_of_ble_eq_true rfl⟩ rfl rfl hl.1 (Nat.le_of_ble_eq_true rfl) dX6_busyTime_27 ⟨Nat.le_of_ble_eq_true rfl, Nat.le_of_ble_eq_true rfl⟩ (fun r M1 H locs hp hw => ?_)
    obtain ⟨hr1, hq⟩ := hp
    subst hr1
    rw [hq] at hw
    refine lv_goto (tgt := 34) hx hb dX6_busyTime_30 (by decide) ?_
    exact r_iret cX hr hlocks hw ⟨by unfold q_busy; rw [if_pos (if01n c8), hxc], rfl⟩ dX6_busyTime_34

set_option maxHeartbeats 4000000 in
set_option maxRecDepth 100000 in
theorem c_X6_latency (l : Launch) (G : gG) {M : HM} {ad : Nat → Nat} {F : Nat → Nat → Int32} {nx ct : Nat} {fl T : Nat → Int32} {len : Nat} {tr : Nat → Int32} (hC0 : IsCl G M ad F nx ct fl T len tr) (x y : Int32) {B : Nat} (hv : Inv B (F 0)) : Ci l yX6_latency cX6_latency 3 .int (rd 3 0 0) G [.ref (ad 0), .int x, .int y] M (fun r M' => r = q_latency x y (F 0) ∧ M' = M) := by
  refine Ci.of (by decide) (Nat.le_of_ble_eq_true rfl) ?_
  intro p e s m args below meth c ls cX hw hlocks hr hl
  have hx := cX.1
  have hb := cX.2.1
  have hl : lv_has ls 3 [(0, .ref (ad 0)), (1, .int x), (2, .int y)] := hl
  have hC : Cl G M M ad F nx ct fl T len tr := ⟨hC0, OffC.rf M ad 359⟩
  have hI := (hC.1.sts 0 (by decide)).st
  refine lv_aload_n hx hb dX6_latency_0 rfl (lv_at hl 0 rfl) ?_
  refine r_get cX inX6 hw hC.1.1 rfl 0 (by decide) wF_X6_10 rfl dX6_latency_1 ?_
  refine lv_iload_n hx hb dX6_latency_4 rfl (lv_at hl 1 rfl) ?_
  refine r_Vi cX hw hI.1.1 rfl [.int x] (c_X4_hasPath l G hI.1 x) wM_X6_54 mw_X4_hasPath ⟨Nat.le_of_ble_eq_true rfl, Nat.le_of_ble_eq_true rfl⟩ rfl rfl hl.1 (Nat.le_of_ble_eq_true rfl) dX6_latency_5 ⟨Nat.le_of_ble_eq_true rfl, Nat.le_of_ble_eq_true rfl⟩ (fun r M1 H locs hp hw => ?_)
  obtain ⟨hr1, hq⟩ := hp
  subst hr1
  rw [hq] at hw
  refine lv_if_eq (tgt := 18) hx hb dX6_latency_8 (by decide) (fun c8 => ?_) (fun c8 => ?_)
  · refine lv_iconst (v := (-1)) hx hb dX6_latency_18 (by decide) ?_
    exact r_iret cX hr hlocks hw ⟨by unfold q_latency; rw [if_neg (fun h => if01e c8 h.1)], rfl⟩ dX6_latency_19
  · refine lv_iload_n hx hb dX6_latency_11 rfl (lv_at hl 2 rfl) ?_
    refine r_Si cX hw [.int y] (c_X6_isSize l G y) wM_X6_102 mw_X6_isSize ⟨Nat.le_of_ble_eq_true rfl, Nat.le_of_ble_eq_true rfl⟩ rfl rfl hl.1 (Nat.le_of_ble_eq_true rfl) dX6_latency_12 ⟨Nat.le_of_ble_eq_true rfl, Nat.le_of_ble_eq_true rfl⟩ (fun r M1 H locs hp hw => ?_)
    obtain ⟨hr1, hq⟩ := hp
    subst hr1
    rw [hq] at hw
    refine lv_if_ne (tgt := 20) hx hb dX6_latency_15 (by decide) (fun c15 => ?_) (fun c15 => ?_)
    · refine lv_aload_n hx hb dX6_latency_20 rfl (lv_at hl 0 rfl) ?_
      refine r_get cX inX6 hw hC.1.1 rfl 0 (by decide) wF_X6_10 rfl dX6_latency_21 ?_
      refine r_get cX inX4 hw hI.1.1 rfl 9 (by decide) wF_X6_58 rfl dX6_latency_24 ?_
      refine lv_iload_n hx hb dX6_latency_27 rfl (lv_at hl 1 rfl) ?_
      obtain ⟨g_31, hg_31, hg_31_⟩ := hI.1.2.1
      obtain ⟨k, hk, hkP, hxk, hxc⟩ := path_ix hv (if01n c8)
      refine r_aald cX hw 4 rfl hg_31 k hxk hk (by decide) (hg_31_ k hk) dX6_latency_28 ?_
      refine lv_aload_n hx hb dX6_latency_29 rfl (lv_at hl 0 rfl) ?_
      refine r_get cX inX6 hw hC.1.1 rfl 0 (by decide) wF_X6_10 rfl dX6_latency_30 ?_
      refine r_get cX inX4 hw hI.1.1 rfl 2 (by decide) wF_X6_96 rfl dX6_latency_33 ?_
      refine lv_iload_n hx hb dX6_latency_36 rfl (lv_at hl 2 rfl) ?_
      refine r_Vi cX hw (hI.1.2.2.2.2.1 k hk) rfl [.int ((F 0) 0), .int y] (c_X2_ticksToArrive l G (hI.1.2.2.2.2.1 k hk) (F 0 0) y (hv.ger k hk)) wM_X6_155 mw_X2_ticksToArrive ⟨Nat.le_of_ble_eq_true rfl, Nat.le_of_ble_eq_true rfl⟩ rfl rfl hl.1 (Nat.le_of_ble_eq_true rfl) dX6_latency_37 ⟨Nat.le_of_ble_eq_true rfl, Nat.le_of_ble_eq_true rfl⟩ (fun r M1 H locs hp hw => ?_)
      obtain ⟨hr1, hq⟩ := hp
      subst hr1
      rw [hq] at hw
      exact r_iret cX hr hlocks hw ⟨by unfold q_latency; rw [if_pos ⟨(if01n c8), (if01n c15)⟩, hxc]; rfl, rfl⟩ dX6_latency_40
    · refine lv_iconst (v := (-1)) hx hb dX6_latency_18 (by decide) ?_
      exact r_iret cX hr hlocks hw ⟨by unfold q_latency; rw [if_neg (fun h => if01e c15 h.2)], rfl⟩ dX6_latency_19

set_option maxHeartbeats 4000000 in
set_option maxRecDepth 100000 in
theorem c_X6_safeGap (l : Launch) (G : gG) {M : HM} {ad : Nat → Nat} {F : Nat → Nat → Int32} {nx ct : Nat} {fl T : Nat → Int32} {len : Nat} {tr : Nat → Int32} (hC0 : IsCl G M ad F nx ct fl T len tr) (x : Int32) {B : Nat} (hv : Inv B (F 0)) : Ci l yX6_safeGap cX6_safeGap 2 .int (rd 4 0 0) G [.ref (ad 0), .int x] M (fun r M' => r = q_safeGap x (F 0) ∧ M' = M) := by
  refine Ci.of (by decide) (Nat.le_of_ble_eq_true rfl) ?_
  intro p e s m args below meth c ls cX hw hlocks hr hl
  have hx := cX.1
  have hb := cX.2.1
  have hl : lv_has ls 2 [(0, .ref (ad 0)), (1, .int x)] := hl
  have hC : Cl G M M ad F nx ct fl T len tr := ⟨hC0, OffC.rf M ad 359⟩
  have hI := (hC.1.sts 0 (by decide)).st
  refine lv_iload_n hx hb dX6_safeGap_0 rfl (lv_at hl 1 rfl) ?_
  refine r_Si cX hw [.int x] (c_X6_isSize l G x) wM_X6_102 mw_X6_isSize ⟨Nat.le_of_ble_eq_true rfl, Nat.le_of_ble_eq_true rfl⟩ rfl rfl hl.1 (Nat.le_of_ble_eq_true rfl) dX6_safeGap_1 ⟨Nat.le_of_ble_eq_true rfl, Nat.le_of_ble_eq_true rfl⟩ (fun r M1 H locs hp hw => ?_)
  obtain ⟨hr1, hq⟩ := hp
  subst hr1
  rw [hq] at hw
  refine lv_if_eq (tgt := 18) hx hb dX6_safeGap_4 (by decide) (fun c4 => ?_) (fun c4 => ?_)
  · refine lv_iconst (v := (-1)) hx hb dX6_safeGap_18 (by decide) ?_
    exact r_iret cX hr hlocks hw ⟨by unfold q_safeGap; rw [if_neg (fun h => if01e c4 h)], rfl⟩ dX6_safeGap_19
  · refine lv_aload_n hx hb dX6_safeGap_7 rfl (lv_at hl 0 rfl) ?_
    refine r_get cX inX6 hw hC.1.1 rfl 0 (by decide) wF_X6_10 rfl dX6_safeGap_8 ?_
    refine lv_iload_n hx hb dX6_safeGap_11 rfl (lv_at hl 1 rfl) ?_
    refine r_Vi cX hw hI.1.1 rfl [.int x] (c_X4_spreadOfLatencies l G hI.1 x hv) wM_X6_158 mw_X4_spreadOfLatencies ⟨Nat.le_of_ble_eq_true rfl, Nat.le_of_ble_eq_true rfl⟩ rfl rfl hl.1 (Nat.le_of_ble_eq_true rfl) dX6_safeGap_12 ⟨Nat.le_of_ble_eq_true rfl, Nat.le_of_ble_eq_true rfl⟩ (fun r M1 H locs hp hw => ?_)
    obtain ⟨hr1, hq⟩ := hp
    subst hr1
    rw [hq] at hw
    refine lv_goto (tgt := 19) hx hb dX6_safeGap_15 (by decide) ?_
    exact r_iret cX hr hlocks hw ⟨by unfold q_safeGap; rw [if_pos (if01n c4)], rfl⟩ dX6_safeGap_19

set_option maxHeartbeats 4000000 in
set_option maxRecDepth 100000 in
theorem c_X6_imbalance (l : Launch) (G : gG) {M : HM} {ad : Nat → Nat} {F : Nat → Nat → Int32} {nx ct : Nat} {fl T : Nat → Int32} {len : Nat} {tr : Nat → Int32} (hC0 : IsCl G M ad F nx ct fl T len tr) {B : Nat} (hv : Inv B (F 0)) : Ci l yX6_imbalance cX6_imbalance 1 .int (rd 2 0 0) G [.ref (ad 0)] M (fun r M' => r = q_imbalance (F 0) ∧ M' = M) := by
  refine Ci.of (by decide) (Nat.le_of_ble_eq_true rfl) ?_
  intro p e s m args below meth c ls cX hw hlocks hr hl
  have hx := cX.1
  have hb := cX.2.1
  have hl : lv_has ls 1 [(0, .ref (ad 0))] := hl
  have hC : Cl G M M ad F nx ct fl T len tr := ⟨hC0, OffC.rf M ad 359⟩
  have hI := (hC.1.sts 0 (by decide)).st
  refine lv_aload_n hx hb dX6_imbalance_0 rfl (lv_at hl 0 rfl) ?_
  refine r_get cX inX6 hw hC.1.1 rfl 0 (by decide) wF_X6_10 rfl dX6_imbalance_1 ?_
  refine r_Vi cX hw hI.1.1 rfl [] (c_X4_spreadOfBytes l G hI.1 hv) wM_X6_170 mw_X4_spreadOfBytes ⟨Nat.le_of_ble_eq_true rfl, Nat.le_of_ble_eq_true rfl⟩ rfl rfl hl.1 (Nat.le_of_ble_eq_true rfl) dX6_imbalance_4 ⟨Nat.le_of_ble_eq_true rfl, Nat.le_of_ble_eq_true rfl⟩ (fun r M1 H locs hp hw => ?_)
  obtain ⟨hr1, hq⟩ := hp
  subst hr1
  rw [hq] at hw
  exact r_iret cX hr hlocks hw ⟨by unfold q_imbalance; rfl, rfl⟩ dX6_imbalance_7

set_option maxHeartbeats 4000000 in
set_option maxRecDepth 100000 in
theorem c_X6_flowlets (l : Launch) (G : gG) {M : HM} {ad : Nat → Nat} {F : Nat → Nat → Int32} {nx ct : Nat} {fl T : Nat → Int32} {len : Nat} {tr : Nat → Int32} (hC0 : IsCl G M ad F nx ct fl T len tr) (x : Int32) {B : Nat} (hv : Inv B (F 0)) : Ci l yX6_flowlets cX6_flowlets 2 .int (rd 2 0 0) G [.ref (ad 0), .int x] M (fun r M' => r = q_flw 73 x (F 0) ∧ M' = M) := by
  refine Ci.of (by decide) (Nat.le_of_ble_eq_true rfl) ?_
  intro p e s m args below meth c ls cX hw hlocks hr hl
  have hx := cX.1
  have hb := cX.2.1
  have hl : lv_has ls 2 [(0, .ref (ad 0)), (1, .int x)] := hl
  have hC : Cl G M M ad F nx ct fl T len tr := ⟨hC0, OffC.rf M ad 359⟩
  have hI := (hC.1.sts 0 (by decide)).st
  refine lv_iload_n hx hb dX6_flowlets_0 rfl (lv_at hl 1 rfl) ?_
  refine r_Si cX hw [.int x] (c_X6_isFlow l G x) wM_X6_99 mw_X6_isFlow ⟨Nat.le_of_ble_eq_true rfl, Nat.le_of_ble_eq_true rfl⟩ rfl rfl hl.1 (Nat.le_of_ble_eq_true rfl) dX6_flowlets_1 ⟨Nat.le_of_ble_eq_true rfl, Nat.le_of_ble_eq_true rfl⟩ (fun r M1 H locs hp hw => ?_)
  obtain ⟨hr1, hq⟩ := hp
  subst hr1
  rw [hq] at hw
  refine lv_if_eq (tgt := 22) hx hb dX6_flowlets_4 (by decide) (fun c4 => ?_) (fun c4 => ?_)
  · refine lv_iconst (v := (-1)) hx hb dX6_flowlets_22 (by decide) ?_
    exact r_iret cX hr hlocks hw ⟨by unfold q_flw; rw [if_neg (fun h => if01e c4 h)], rfl⟩ dX6_flowlets_23
  · refine lv_aload_n hx hb dX6_flowlets_7 rfl (lv_at hl 0 rfl) ?_
    refine r_get cX inX6 hw hC.1.1 rfl 0 (by decide) wF_X6_10 rfl dX6_flowlets_8 ?_
    refine r_get cX inX4 hw hI.1.1 rfl 11 (by decide) wF_X6_180 rfl dX6_flowlets_11 ?_
    refine lv_iload_n hx hb dX6_flowlets_14 rfl (lv_at hl 1 rfl) ?_
    obtain ⟨g_32, hg_32, hg_32_⟩ := hI.1.2.2.2.1
    obtain ⟨k, hk, hxk, hxc⟩ := lit_ix 15 (by decide) (if01n c4)
    refine r_aald cX hw 3 rfl hg_32 k hxk hk (by decide) (hg_32_ k hk) dX6_flowlets_15 ?_
    refine r_get cX inX1 hw (hI.1.2.2.2.2.2.2.1 k hk) rfl 0 (by decide) wF_X6_184 rfl dX6_flowlets_16 ?_
    refine lv_goto (tgt := 23) hx hb dX6_flowlets_19 (by decide) ?_
    exact r_iret cX hr hlocks hw ⟨by unfold q_flw; rw [if_pos (if01n c4), hxc], rfl⟩ dX6_flowlets_23

set_option maxHeartbeats 4000000 in
set_option maxRecDepth 100000 in
theorem c_X6_pathChanges (l : Launch) (G : gG) {M : HM} {ad : Nat → Nat} {F : Nat → Nat → Int32} {nx ct : Nat} {fl T : Nat → Int32} {len : Nat} {tr : Nat → Int32} (hC0 : IsCl G M ad F nx ct fl T len tr) (x : Int32) {B : Nat} (hv : Inv B (F 0)) : Ci l yX6_pathChanges cX6_pathChanges 2 .int (rd 2 0 0) G [.ref (ad 0), .int x] M (fun r M' => r = q_flw 89 x (F 0) ∧ M' = M) := by
  refine Ci.of (by decide) (Nat.le_of_ble_eq_true rfl) ?_
  intro p e s m args below meth c ls cX hw hlocks hr hl
  have hx := cX.1
  have hb := cX.2.1
  have hl : lv_has ls 2 [(0, .ref (ad 0)), (1, .int x)] := hl
  have hC : Cl G M M ad F nx ct fl T len tr := ⟨hC0, OffC.rf M ad 359⟩
  have hI := (hC.1.sts 0 (by decide)).st
  refine lv_iload_n hx hb dX6_pathChanges_0 rfl (lv_at hl 1 rfl) ?_
  refine r_Si cX hw [.int x] (c_X6_isFlow l G x) wM_X6_99 mw_X6_isFlow ⟨Nat.le_of_ble_eq_true rfl, Nat.le_of_ble_eq_true rfl⟩ rfl rfl hl.1 (Nat.le_of_ble_eq_true rfl) dX6_pathChanges_1 ⟨Nat.le_of_ble_eq_true rfl, Nat.le_of_ble_eq_true rfl⟩ (fun r M1 H locs hp hw => ?_)
  obtain ⟨hr1, hq⟩ := hp
  subst hr1
  rw [hq] at hw
  refine lv_if_eq (tgt := 22) hx hb dX6_pathChanges_4 (by decide) (fun c4 => ?_) (fun c4 => ?_)
  · refine lv_iconst (v := (-1)) hx hb dX6_pathChanges_22 (by decide) ?_
    exact r_iret cX hr hlocks hw ⟨by unfold q_flw; rw [if_neg (fun h => if01e c4 h)], rfl⟩ dX6_pathChanges_23
  · refine lv_aload_n hx hb dX6_pathChanges_7 rfl (lv_at hl 0 rfl) ?_
    refine r_get cX inX6 hw hC.1.1 rfl 0 (by decide) wF_X6_10 rfl dX6_pathChanges_8 ?_
    refine r_get cX inX4 hw hI.1.1 rfl 11 (by decide) wF_X6_180 rfl dX6_pathChanges_11 ?_
    refine lv_iload_n hx hb dX6_pathChanges_14 rfl (lv_at hl 1 rfl) ?_
    obtain ⟨g_33, hg_33, hg_33_⟩ := hI.1.2.2.2.1
    obtain ⟨k, hk, hxk, hxc⟩ := lit_ix 15 (by decide) (if01n c4)
    refine r_aald cX hw 3 rfl hg_33 k hxk hk (by decide) (hg_33_ k hk) dX6_pathChanges_15 ?_
    refine r_get cX inX1 hw (hI.1.2.2.2.2.2.2.1 k hk) rfl 1 (by decide) wF_X6_189 rfl dX6_pathChanges_16 ?_
    refine lv_goto (tgt := 23) hx hb dX6_pathChanges_19 (by decide) ?_
    exact r_iret cX hr hlocks hw ⟨by unfold q_flw; rw [if_pos (if01n c4), hxc], rfl⟩ dX6_pathChanges_23

set_option maxHeartbeats 4000000 in
set_option maxRecDepth 100000 in
theorem c_X6_reordered (l : Launch) (G : gG) {M : HM} {ad : Nat → Nat} {F : Nat → Nat → Int32} {nx ct : Nat} {fl T : Nat → Int32} {len : Nat} {tr : Nat → Int32} (hC0 : IsCl G M ad F nx ct fl T len tr) (x : Int32) {B : Nat} (hv : Inv B (F 0)) : Ci l yX6_reordered cX6_reordered 2 .int (rd 2 0 0) G [.ref (ad 0), .int x] M (fun r M' => r = q_flw 121 x (F 0) ∧ M' = M) := by
  refine Ci.of (by decide) (Nat.le_of_ble_eq_true rfl) ?_
  intro p e s m args below meth c ls cX hw hlocks hr hl
  have hx := cX.1
  have hb := cX.2.1
  have hl : lv_has ls 2 [(0, .ref (ad 0)), (1, .int x)] := hl
  have hC : Cl G M M ad F nx ct fl T len tr := ⟨hC0, OffC.rf M ad 359⟩
  have hI := (hC.1.sts 0 (by decide)).st
  refine lv_iload_n hx hb dX6_reordered_0 rfl (lv_at hl 1 rfl) ?_
  refine r_Si cX hw [.int x] (c_X6_isFlow l G x) wM_X6_99 mw_X6_isFlow ⟨Nat.le_of_ble_eq_true rfl, Nat.le_of_ble_eq_true rfl⟩ rfl rfl hl.1 (Nat.le_of_ble_eq_true rfl) dX6_reordered_1 ⟨Nat.le_of_ble_eq_true rfl, Nat.le_of_ble_eq_true rfl⟩ (fun r M1 H locs hp hw => ?_)
  obtain ⟨hr1, hq⟩ := hp
  subst hr1
  rw [hq] at hw
  refine lv_if_eq (tgt := 22) hx hb dX6_reordered_4 (by decide) (fun c4 => ?_) (fun c4 => ?_)
  · refine lv_iconst (v := (-1)) hx hb dX6_reordered_22 (by decide) ?_
    exact r_iret cX hr hlocks hw ⟨by unfold q_flw; rw [if_neg (fun h => if01e c4 h)], rfl⟩ dX6_reordered_23
  · refine lv_aload_n hx hb dX6_reordered_7 rfl (lv_at hl 0 rfl) ?_
    refine r_get cX inX6 hw hC.1.1 rfl 0 (by decide) wF_X6_10 rfl dX6_reordered_8 ?_
    refine r_get cX inX4 hw hI.1.1 rfl 11 (by decide) wF_X6_180 rfl dX6_reordered_11 ?_
    refine lv_iload_n hx hb dX6_reordered_14 rfl (lv_at hl 1 rfl) ?_
    obtain ⟨g_34, hg_34, hg_34_⟩ := hI.1.2.2.2.1
    obtain ⟨k, hk, hxk, hxc⟩ := lit_ix 15 (by decide) (if01n c4)
    refine r_aald cX hw 3 rfl hg_34 k hxk hk (by decide) (hg_34_ k hk) dX6_reordered_15 ?_
    refine r_get cX inX1 hw (hI.1.2.2.2.2.2.2.1 k hk) rfl 2 (by decide) wF_X6_192 rfl dX6_reordered_16 ?_
    refine lv_goto (tgt := 23) hx hb dX6_reordered_19 (by decide) ?_
    exact r_iret cX hr hlocks hw ⟨by unfold q_flw; rw [if_pos (if01n c4), hxc], rfl⟩ dX6_reordered_23

set_option maxHeartbeats 4000000 in
set_option maxRecDepth 100000 in
theorem c_X6_lastArrival (l : Launch) (G : gG) {M : HM} {ad : Nat → Nat} {F : Nat → Nat → Int32} {nx ct : Nat} {fl T : Nat → Int32} {len : Nat} {tr : Nat → Int32} (hC0 : IsCl G M ad F nx ct fl T len tr) (x : Int32) {B : Nat} (hv : Inv B (F 0)) : Ci l yX6_lastArrival cX6_lastArrival 2 .int (rd 2 0 0) G [.ref (ad 0), .int x] M (fun r M' => r = q_flw 137 x (F 0) ∧ M' = M) := by
  refine Ci.of (by decide) (Nat.le_of_ble_eq_true rfl) ?_
  intro p e s m args below meth c ls cX hw hlocks hr hl
  have hx := cX.1
  have hb := cX.2.1
  have hl : lv_has ls 2 [(0, .ref (ad 0)), (1, .int x)] := hl
  have hC : Cl G M M ad F nx ct fl T len tr := ⟨hC0, OffC.rf M ad 359⟩
  have hI := (hC.1.sts 0 (by decide)).st
  refine lv_iload_n hx hb dX6_lastArrival_0 rfl (lv_at hl 1 rfl) ?_
  refine r_Si cX hw [.int x] (c_X6_isFlow l G x) wM_X6_99 mw_X6_isFlow ⟨Nat.le_of_ble_eq_true rfl, Nat.le_of_ble_eq_true rfl⟩ rfl rfl hl.1 (Nat.le_of_ble_eq_true rfl) dX6_lastArrival_1 ⟨Nat.le_of_ble_eq_true rfl, Nat.le_of_ble_eq_true rfl⟩ (fun r M1 H locs hp hw => ?_)
  obtain ⟨hr1, hq⟩ := hp
  subst hr1
  rw [hq] at hw
  refine lv_if_eq (tgt := 22) hx hb dX6_lastArrival_4 (by decide) (fun c4 => ?_) (fun c4 => ?_)
  · refine lv_iconst (v := (-1)) hx hb dX6_lastArrival_22 (by decide) ?_
    exact r_iret cX hr hlocks hw ⟨by unfold q_flw; rw [if_neg (fun h => if01e c4 h)], rfl⟩ dX6_lastArrival_23
  · refine lv_aload_n hx hb dX6_lastArrival_7 rfl (lv_at hl 0 rfl) ?_
    refine r_get cX inX6 hw hC.1.1 rfl 0 (by decide) wF_X6_10 rfl dX6_lastArrival_8 ?_
    refine r_get cX inX4 hw hI.1.1 rfl 11 (by decide) wF_X6_180 rfl dX6_lastArrival_11 ?_
    refine lv_iload_n hx hb dX6_lastArrival_14 rfl (lv_at hl 1 rfl) ?_
    obtain ⟨g_35, hg_35, hg_35_⟩ := hI.1.2.2.2.1
    obtain ⟨k, hk, hxk, hxc⟩ := lit_ix 15 (by decide) (if01n c4)
    refine r_aald cX hw 3 rfl hg_35 k hxk hk (by decide) (hg_35_ k hk) dX6_lastArrival_15 ?_
    refine r_get cX inX1 hw (hI.1.2.2.2.2.2.2.1 k hk) rfl 4 (by decide) wF_X6_195 rfl dX6_lastArrival_16 ?_
    refine lv_goto (tgt := 23) hx hb dX6_lastArrival_19 (by decide) ?_
    exact r_iret cX hr hlocks hw ⟨by unfold q_flw; rw [if_pos (if01n c4), hxc], rfl⟩ dX6_lastArrival_23

set_option maxHeartbeats 4000000 in
set_option maxRecDepth 100000 in
theorem c_X6_nextPath (l : Launch) (G : gG) {M : HM} {ad : Nat → Nat} {F : Nat → Nat → Int32} {nx ct : Nat} {fl T : Nat → Int32} {len : Nat} {tr : Nat → Int32} (hC0 : IsCl G M ad F nx ct fl T len tr) (x : Int32) {B : Nat} (hv : Inv B (F 0)) : Ci l yX6_nextPath cX6_nextPath 2 .int (rd 4 0 0) G [.ref (ad 0), .int x] M (fun r M' => r = q_nextPath x (F 0) ∧ M' = M) := by
  refine Ci.of (by decide) (Nat.le_of_ble_eq_true rfl) ?_
  intro p e s m args below meth c ls cX hw hlocks hr hl
  have hx := cX.1
  have hb := cX.2.1
  have hl : lv_has ls 2 [(0, .ref (ad 0)), (1, .int x)] := hl
  have hC : Cl G M M ad F nx ct fl T len tr := ⟨hC0, OffC.rf M ad 359⟩
  have hI := (hC.1.sts 0 (by decide)).st
  refine lv_iload_n hx hb dX6_nextPath_0 rfl (lv_at hl 1 rfl) ?_
  refine r_Si cX hw [.int x] (c_X6_isFlow l G x) wM_X6_99 mw_X6_isFlow ⟨Nat.le_of_ble_eq_true rfl, Nat.le_of_ble_eq_true rfl⟩ rfl rfl hl.1 (Nat.le_of_ble_eq_true rfl) dX6_nextPath_1 ⟨Nat.le_of_ble_eq_true rfl, Nat.le_of_ble_eq_true rfl⟩ (fun r M1 H locs hp hw => ?_)
  obtain ⟨hr1, hq⟩ := hp
  subst hr1
  rw [hq] at hw
  refine lv_if_eq (tgt := 18) hx hb dX6_nextPath_4 (by decide) (fun c4 => ?_) (fun c4 => ?_)
  · refine lv_iconst (v := (-1)) hx hb dX6_nextPath_18 (by decide) ?_
    exact r_iret cX hr hlocks hw ⟨by unfold q_nextPath; rw [if_neg (fun h => if01e c4 h)], rfl⟩ dX6_nextPath_19
  · refine lv_aload_n hx hb dX6_nextPath_7 rfl (lv_at hl 0 rfl) ?_
    refine r_get cX inX6 hw hC.1.1 rfl 0 (by decide) wF_X6_10 rfl dX6_nextPath_8 ?_
    refine lv_iload_n hx hb dX6_nextPath_11 rfl (lv_at hl 1 rfl) ?_
    obtain ⟨k, hk, rfl, hxc⟩ := lit_ix 15 (by decide) (if01n c4)
    refine r_Vi cX hw hI.1.1 rfl [.int (nI k)] (c_X4_pathFor l G hI.1 hv k hk) wM_X6_173 mw_X4_pathFor ⟨Nat.le_of_ble_eq_true rfl, Nat.le_of_ble_eq_true rfl⟩ rfl rfl hl.1 (Nat.le_of_ble_eq_true rfl) dX6_nextPath_12 ⟨Nat.le_of_ble_eq_true rfl, Nat.le_of_ble_eq_true rfl⟩ (fun r M1 H locs hp hw => ?_)
    obtain ⟨hr1, hq⟩ := hp
    subst hr1
    rw [hq] at hw
    refine lv_goto (tgt := 19) hx hb dX6_nextPath_15 (by decide) ?_
    exact r_iret cX hr hlocks hw ⟨by unfold q_nextPath; rw [if_pos (if01n c4)]; rw [hxc], rfl⟩ dX6_nextPath_19

set_option maxHeartbeats 4000000 in
set_option maxRecDepth 100000 in
theorem c_X6_wouldReorder (l : Launch) (G : gG) {M : HM} {ad : Nat → Nat} {F : Nat → Nat → Int32} {nx ct : Nat} {fl T : Nat → Int32} {len : Nat} {tr : Nat → Int32} (hC0 : IsCl G M ad F nx ct fl T len tr) (x y : Int32) {B : Nat} (hv : Inv B (F 0)) (hB : B < 2 ^ 30) : Ci l yX6_wouldReorder cX6_wouldReorder 3 .int (rd 5 0 0) G [.ref (ad 0), .int x, .int y] M (fun r M' => r = q_wouldReorder x y (F 0) ∧ M' = M) := by
  refine Ci.of (by decide) (Nat.le_of_ble_eq_true rfl) ?_
  intro p e s m args below meth c ls cX hw hlocks hr hl
  have hx := cX.1
  have hb := cX.2.1
  have hl : lv_has ls 3 [(0, .ref (ad 0)), (1, .int x), (2, .int y)] := hl
  have hC : Cl G M M ad F nx ct fl T len tr := ⟨hC0, OffC.rf M ad 359⟩
  have hI := (hC.1.sts 0 (by decide)).st
  refine lv_iload_n hx hb dX6_wouldReorder_0 rfl (lv_at hl 1 rfl) ?_
  refine r_Si cX hw [.int x] (c_X6_isFlow l G x) wM_X6_99 mw_X6_isFlow ⟨Nat.le_of_ble_eq_true rfl, Nat.le_of_ble_eq_true rfl⟩ rfl rfl hl.1 (Nat.le_of_ble_eq_true rfl) dX6_wouldReorder_1 ⟨Nat.le_of_ble_eq_true rfl, Nat.le_of_ble_eq_true rfl⟩ (fun r M1 H locs hp hw => ?_)
  obtain ⟨hr1, hq⟩ := hp
  subst hr1
  rw [hq] at hw
  refine lv_if_eq (tgt := 14) hx hb dX6_wouldReorder_4 (by decide) (fun c4 => ?_) (fun c4 => ?_)
  · refine lv_iconst (v := (-1)) hx hb dX6_wouldReorder_14 (by decide) ?_
    exact r_iret cX hr hlocks hw ⟨by unfold q_wouldReorder; rw [if_neg (fun h => if01e c4 h.1)], rfl⟩ dX6_wouldReorder_15
  · refine lv_iload_n hx hb dX6_wouldReorder_7 rfl (lv_at hl 2 rfl) ?_
    refine r_Si cX hw [.int y] (c_X6_isSize l G y) wM_X6_102 mw_X6_isSize ⟨Nat.le_of_ble_eq_true rfl, Nat.le_of_ble_eq_true rfl⟩ rfl rfl hl.1 (Nat.le_of_ble_eq_true rfl) dX6_wouldReorder_8 ⟨Nat.le_of_ble_eq_true rfl, Nat.le_of_ble_eq_true rfl⟩ (fun r M1 H locs hp hw => ?_)
    obtain ⟨hr1, hq⟩ := hp
    subst hr1
    rw [hq] at hw
    refine lv_if_ne (tgt := 16) hx hb dX6_wouldReorder_11 (by decide) (fun c11 => ?_) (fun c11 => ?_)
    · refine lv_aload_n hx hb dX6_wouldReorder_16 rfl (lv_at hl 0 rfl) ?_
      refine r_get cX inX6 hw hC.1.1 rfl 0 (by decide) wF_X6_10 rfl dX6_wouldReorder_17 ?_
      refine lv_iload_n hx hb dX6_wouldReorder_20 rfl (lv_at hl 1 rfl) ?_
      refine lv_iload_n hx hb dX6_wouldReorder_21 rfl (lv_at hl 2 rfl) ?_
      obtain ⟨k, hk, rfl, hxc⟩ := lit_ix 15 (by decide) (if01n c4)
      refine r_Vi cX hw hI.1.1 rfl [.int (nI k), .int y] (c_X4_wouldOvertake l G hI.1 hv hB k hk y) wM_X6_176 mw_X4_wouldOvertake ⟨Nat.le_of_ble_eq_true rfl, Nat.le_of_ble_eq_true rfl⟩ rfl rfl hl.1 (Nat.le_of_ble_eq_true rfl) dX6_wouldReorder_22 ⟨Nat.le_of_ble_eq_true rfl, Nat.le_of_ble_eq_true rfl⟩ (fun r M1 H locs hp hw => ?_)
      obtain ⟨hr1, hq⟩ := hp
      subst hr1
      rw [hq] at hw
      refine lv_if_eq (tgt := 32) hx hb dX6_wouldReorder_25 (by decide) (fun c25 => ?_) (fun c25 => ?_)
      · refine lv_iconst (v := 0) hx hb dX6_wouldReorder_32 (by decide) ?_
        exact r_iret cX hr hlocks hw ⟨by unfold q_wouldReorder; rw [if_pos ⟨(if01n c4), (if01n c11)⟩]; rw [hxc]; exact c25.symm, rfl⟩ dX6_wouldReorder_33
      · refine lv_iconst (v := 1) hx hb dX6_wouldReorder_28 (by decide) ?_
        refine lv_goto (tgt := 33) hx hb dX6_wouldReorder_29 (by decide) ?_
        exact r_iret cX hr hlocks hw ⟨by unfold q_wouldReorder; rw [if_pos ⟨(if01n c4), (if01n c11)⟩]; rw [hxc]; exact ((woF01 _ _ _).resolve_left c25).symm, rfl⟩ dX6_wouldReorder_33
    · refine lv_iconst (v := (-1)) hx hb dX6_wouldReorder_14 (by decide) ?_
      exact r_iret cX hr hlocks hw ⟨by unfold q_wouldReorder; rw [if_neg (fun h => if01e c11 h.2)], rfl⟩ dX6_wouldReorder_15

set_option maxHeartbeats 4000000 in
set_option maxRecDepth 100000 in
theorem c_X3_push (l : Launch) (G : gG) {M : HM} {ad : Nat → Nat} {F : Nat → Nat → Int32} {nx ct : Nat} {fl T : Nat → Int32} {len : Nat} {tr : Nat → Int32} (hC0 : IsCl G M ad F nx ct fl T len tr) : Cv l yX3_push cX3_push 2 (rd 2 0 0) G [.ref (ad 1), .ref (Lst ad 0 0)] M (fun M' => Cl G M M' ad (uF F (nx + 1) (F 0)) ((nx + 1) % 8) (min (ct + 1) 8) fl T len tr) := by
  have hnx := hC0.2.2.2.2.2.2.2.2.2.1
  have hct := hC0.2.2.2.2.2.2.2.2.2.2.1
  refine Cv.of (by decide) (Nat.le_of_ble_eq_true rfl) ?_
  intro p e s m args below meth c ls cX hw hlocks hr hnm hl
  have hx := cX.1
  have hb := cX.2.1
  have hl : lv_has ls 2 [(0, .ref (ad 1)), (1, .ref (Lst ad 0 0))] := hl
  have hC : Cl G M M ad F nx ct fl T len tr := ⟨hC0, OffC.rf M ad 359⟩
  have hI := (hC.1.sts 0 (by decide)).st
  refine lv_aload_n hx hb dX3_push_0 rfl (lv_at hl 0 rfl) ?_
  refine r_get cX inX3 hw hC.1.2.1 rfl 0 (by decide) wF_X3_11 rfl dX3_push_1 ?_
  refine lv_aload_n hx hb dX3_push_4 rfl (lv_at hl 0 rfl) ?_
  refine r_get cX inX3 hw hC.1.2.1 rfl 1 (by decide) wF_X3_18 rfl dX3_push_5 ?_
  obtain ⟨g_36, hg_36, hg_36_⟩ := hC.1.2.2.1
  refine r_aald cX hw 5 rfl hg_36 nx rfl hnx (by decide) (hg_36_ nx hnx) dX3_push_8 ?_
  refine lv_aload_n hx hb dX3_push_9 rfl (lv_at hl 1 rfl) ?_
  refine r_Vv cX hw (hC.1.sts (nx + 1) (by omega)).1 rfl [.ref (Lst ad 0 0)] (c_X4_copyFrom l G (hC.1.sts (nx + 1) (by omega)) hI.1 (hC.1.apart (by omega) (by omega) (by omega))) wM_X3_22 mw_X4_copyFrom ⟨Nat.le_of_ble_eq_true rfl, Nat.le_of_ble_eq_true rfl⟩ rfl rfl hl.1 (Nat.le_of_ble_eq_true rfl) dX3_push_10 ⟨Nat.le_of_ble_eq_true rfl, Nat.le_of_ble_eq_true rfl⟩ (fun M1 H locs hp hw => ?_)
  have hC := hC.st (nx + 1) (by omega) hp
  refine lv_aload_n hx hb dX3_push_13 rfl (lv_at hl 0 rfl) ?_
  refine lv_aload_n hx hb dX3_push_14 rfl (lv_at hl 0 rfl) ?_
  refine r_get cX inX3 hw hC.1.2.1 rfl 1 (by decide) wF_X3_18 rfl dX3_push_15 ?_
  refine lv_iconst (v := 1) hx hb dX3_push_18 (by decide) ?_
  refine lv_iadd hx hb dX3_push_19 ?_
  refine lv_bipush (v := 8) hx hb dX3_push_20 (by decide) ?_
  refine r_irem hx hb dX3_push_22 (by decide) ?_
  refine r_put (fs' := [.ref (ad 2), .int (jr ((nI nx) + 1) 8), .int (nI ct)]) cX inX3 tyX3 tyX3_ok nmX3 hw hC.1.2.1 rfl 1 (by decide) wF_X3_18 rfl rfl rfl rfl (Nat.le_of_ble_eq_true rfl) dX3_push_23 (fun H locs hw => ?_)
  rw [show jr (nI nx + 1) 8 = nI ((nx + 1) % 8) from by rw [nI_1]; exact jr_nI (d := 8) (by omega) (by decide) (by decide)] at hw
  have hC := hC.sv (nx' := (nx + 1) % 8) (ct' := ct) (by omega) hct
  refine lv_aload_n hx hb dX3_push_26 rfl (lv_at hl 0 rfl) ?_
  refine lv_aload_n hx hb dX3_push_27 rfl (lv_at hl 0 rfl) ?_
  refine r_get cX inX3 hw hC.1.2.1 rfl 2 (by decide) wF_X3_26 rfl dX3_push_28 ?_
  refine lv_iconst (v := 1) hx hb dX3_push_31 (by decide) ?_
  refine lv_iadd hx hb dX3_push_32 ?_
  refine lv_bipush (v := 8) hx hb dX3_push_33 (by decide) ?_
  refine r_mmin (own := RX3) (index := 29) cX hl.1 wM_X3_29 (Nat.le_of_ble_eq_true rfl) (Nat.le_of_ble_eq_true rfl) (Nat.zero_le _) (Nat.zero_le _) dX3_push_35 ?_
  refine r_put (fs' := [.ref (ad 2), .int (nI ((nx + 1) % 8)), .int (if 8 < (nI ct) + 1 then 8 else (nI ct) + 1)]) cX inX3 tyX3 tyX3_ok nmX3 hw hC.1.2.1 rfl 2 (by decide) wF_X3_26 rfl rfl rfl rfl (Nat.le_of_ble_eq_true rfl) dX3_push_38 (fun H locs hw => ?_)
  rw [show (if (8 : Int32) < nI ct + 1 then 8 else nI ct + 1) = nI (min (ct + 1) 8) from min8 hct] at hw
  have hC := hC.sv (nx' := (nx + 1) % 8) (ct' := min (ct + 1) 8) (by omega) (by omega)
  exact r_vret cX hr hlocks hw hC dX3_push_41

set_option maxHeartbeats 4000000 in
set_option maxRecDepth 100000 in
theorem c_X3_popInto (l : Launch) (G : gG) {M : HM} {ad : Nat → Nat} {F : Nat → Nat → Int32} {nx ct : Nat} {fl T : Nat → Int32} {len : Nat} {tr : Nat → Int32} (hC0 : IsCl G M ad F nx ct fl T len tr) (hc : 0 < ct) : Cv l yX3_popInto cX3_popInto 2 (rd 2 0 0) G [.ref (ad 1), .ref (Lst ad 0 0)] M (fun M' => Cl G M M' ad (uF F 0 (F ((nx + 7) % 8 + 1))) ((nx + 7) % 8) (ct - 1) fl T len tr) := by
  have hnx := hC0.2.2.2.2.2.2.2.2.2.1
  have hct := hC0.2.2.2.2.2.2.2.2.2.2.1
  refine Cv.of (by decide) (Nat.le_of_ble_eq_true rfl) ?_
  intro p e s m args below meth c ls cX hw hlocks hr hnm hl
  have hx := cX.1
  have hb := cX.2.1
  have hl : lv_has ls 2 [(0, .ref (ad 1)), (1, .ref (Lst ad 0 0))] := hl
  have hC : Cl G M M ad F nx ct fl T len tr := ⟨hC0, OffC.rf M ad 359⟩
  have hI := (hC.1.sts 0 (by decide)).st
  refine lv_aload_n hx hb dX3_popInto_0 rfl (lv_at hl 0 rfl) ?_
  refine lv_aload_n hx hb dX3_popInto_1 rfl (lv_at hl 0 rfl) ?_
  refine r_get cX inX3 hw hC.1.2.1 rfl 1 (by decide) wF_X3_18 rfl dX3_popInto_2 ?_
  refine lv_bipush (v := 8) hx hb dX3_popInto_5 (by decide) ?_
  refine lv_iadd hx hb dX3_popInto_7 ?_
  refine lv_iconst (v := 1) hx hb dX3_popInto_8 (by decide) ?_
  refine lv_isub hx hb dX3_popInto_9 ?_
  refine lv_bipush (v := 8) hx hb dX3_popInto_10 (by decide) ?_
  refine r_irem hx hb dX3_popInto_12 (by decide) ?_
  refine r_put (fs' := [.ref (ad 2), .int (jr (((nI nx) + 8) - 1) 8), .int (nI ct)]) cX inX3 tyX3 tyX3_ok nmX3 hw hC.1.2.1 rfl 1 (by decide) wF_X3_18 rfl rfl rfl rfl (Nat.le_of_ble_eq_true rfl) dX3_popInto_13 (fun H locs hw => ?_)
  rw [show jr (nI nx + 8 - 1) 8 = nI ((nx + 7) % 8) from by rw [show nI nx + (8 : Int32) = nI (nx + 7 + 1) from nI_add nx 8, nI_pred]; exact jr_nI (d := 8) (by omega) (by decide) (by decide)] at hw
  have hC := hC.sv (nx' := (nx + 7) % 8) (ct' := ct) (by omega) hct
  refine lv_aload_n hx hb dX3_popInto_16 rfl (lv_at hl 0 rfl) ?_
  refine lv_dup hx hb dX3_popInto_17 rfl ?_
  refine r_get cX inX3 hw hC.1.2.1 rfl 2 (by decide) wF_X3_26 rfl dX3_popInto_18 ?_
  refine lv_iconst (v := 1) hx hb dX3_popInto_21 (by decide) ?_
  refine lv_isub hx hb dX3_popInto_22 ?_
  refine r_put (fs' := [.ref (ad 2), .int (nI ((nx + 7) % 8)), .int ((nI ct) - 1)]) cX inX3 tyX3 tyX3_ok nmX3 hw hC.1.2.1 rfl 2 (by decide) wF_X3_26 rfl rfl rfl rfl (Nat.le_of_ble_eq_true rfl) dX3_popInto_23 (fun H locs hw => ?_)
  rw [show nI ct - 1 = nI (ct - 1) from pk_sub (b := 1) hc] at hw
  have hC := hC.sv (nx' := (nx + 7) % 8) (ct' := ct - 1) (by omega) (by omega)
  refine lv_aload_n hx hb dX3_popInto_26 rfl (lv_at hl 1 rfl) ?_
  refine lv_aload_n hx hb dX3_popInto_27 rfl (lv_at hl 0 rfl) ?_
  refine r_get cX inX3 hw hC.1.2.1 rfl 0 (by decide) wF_X3_11 rfl dX3_popInto_28 ?_
  refine lv_aload_n hx hb dX3_popInto_31 rfl (lv_at hl 0 rfl) ?_
  refine r_get cX inX3 hw hC.1.2.1 rfl 1 (by decide) wF_X3_18 rfl dX3_popInto_32 ?_
  obtain ⟨g_37, hg_37, hg_37_⟩ := hC.1.2.2.1
  refine r_aald cX hw 5 rfl hg_37 ((nx + 7) % 8) rfl (by omega) (by decide) (hg_37_ ((nx + 7) % 8) (by omega)) dX3_popInto_35 ?_
  refine r_Vv cX hw (hC.1.sts 0 (by decide)).1 rfl [.ref (Lst ad (((nx + 7) % 8) + 1) 0)] (c_X4_copyFrom l G (hC.1.sts 0 (by decide)) (hC.1.sts ((nx + 7) % 8 + 1) (by omega)) (hC.1.apart (by omega) (by omega) (by omega))) wM_X3_22 mw_X4_copyFrom ⟨Nat.le_of_ble_eq_true rfl, Nat.le_of_ble_eq_true rfl⟩ rfl rfl hl.1 (Nat.le_of_ble_eq_true rfl) dX3_popInto_36 ⟨Nat.le_of_ble_eq_true rfl, Nat.le_of_ble_eq_true rfl⟩ (fun M1 H locs hp hw => ?_)
  have hC := hC.st 0 (by decide) hp
  exact r_vret cX hr hlocks hw hC dX3_popInto_39

set_option maxHeartbeats 4000000 in
set_option maxRecDepth 100000 in
theorem c_X3_discardAll (l : Launch) (G : gG) {M : HM} {ad : Nat → Nat} {F : Nat → Nat → Int32} {nx ct : Nat} {fl T : Nat → Int32} {len : Nat} {tr : Nat → Int32} (hC0 : IsCl G M ad F nx ct fl T len tr) : Cv l yX3_discardAll cX3_discardAll 1 (rd 0 0 0) G [.ref (ad 1)] M (fun M' => Cl G M M' ad (F) (nx) (0) fl T len tr) := by
  have hnx := hC0.2.2.2.2.2.2.2.2.2.1
  refine Cv.of (by decide) (Nat.le_of_ble_eq_true rfl) ?_
  intro p e s m args below meth c ls cX hw hlocks hr hnm hl
  have hx := cX.1
  have hb := cX.2.1
  have hl : lv_has ls 1 [(0, .ref (ad 1))] := hl
  have hC : Cl G M M ad F nx ct fl T len tr := ⟨hC0, OffC.rf M ad 359⟩
  have hI := (hC.1.sts 0 (by decide)).st
  refine lv_aload_n hx hb dX3_discardAll_0 rfl (lv_at hl 0 rfl) ?_
  refine lv_iconst (v := 0) hx hb dX3_discardAll_1 (by decide) ?_
  refine r_put (fs' := [.ref (ad 2), .int (nI nx), .int 0]) cX inX3 tyX3 tyX3_ok nmX3 hw hC.1.2.1 rfl 2 (by decide) wF_X3_26 rfl rfl rfl rfl (Nat.le_of_ble_eq_true rfl) dX3_discardAll_2 (fun H locs hw => ?_)
  skip
  have hC := hC.sv (nx' := nx) (ct' := 0) hnx (by omega)
  exact r_vret cX hr hlocks hw hC dX3_discardAll_5
