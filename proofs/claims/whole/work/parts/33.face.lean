theorem adv_ix {x t : Int32} {T0 : Nat} (h0 : T0 ≤ 1000000) (ht : t = nI T0) (h : 1 ≤ x ∧ x ≤ 1000) (h2 : x ≤ tmx - t) : ∃ k, 1 ≤ k ∧ x = nI k ∧ x.toNatClampNeg = k ∧ T0 + k ≤ 1000000 := by
  have hx0 : ¬ x < 0 := fun q => absurd (Int32.lt_of_le_of_lt h.1 q) (by decide)
  obtain ⟨j, h3, h4⟩ := nI_of hx0
  have h1 := h.1
  rw [ht, show tmx = nI 1000000 from rfl, pk_sub h0, h4, nI_leI h3 (by omega)] at h2
  rw [h4, show (1 : Int32) = nI 1 from rfl, nI_leI (by decide) h3] at h1
  exact ⟨j, h1, h4, by rw [h4]; exact nI_clamp h3, by omega⟩
set_option maxHeartbeats 4000000 in
set_option maxRecDepth 100000 in
theorem c_X5_isFull (l : Launch) (G : gG) {M : HM} {a b : Nat} {len : Nat} {p0 p1 p2 p3 : Int32} {T : Nat → Int32} (hM : M a = some (.inr (5, [.ref b, .int (nI len), .int p0, .int p1, .int p2, .int p3]))) (hB : M b = some (.inl (G.2 0, 120, .inl T))) : Ci l yX5_isFull cX5_isFull 1 .boolean (rd 0 0 0) G [.ref a] M (fun r M' => r = (if 120 ≤ nI len then 1 else 0) ∧ M' = M) := by
  have hab : a ≠ b := fun z => by rw [z, hB] at hM; cases hM
  refine Ci.of (by decide) (Nat.le_of_ble_eq_true rfl) ?_
  intro p e s m args below meth c ls cX hw hlocks hr hl
  have hx := cX.1
  have hb := cX.2.1
  have hl : lv_has ls 1 [(0, .ref a)] := hl
  refine lv_aload_n hx hb dX5_isFull_0 rfl (lv_at hl 0 rfl) ?_
  refine r_get cX inX5 hw hM rfl 1 (by decide) wF_X5_15 rfl dX5_isFull_1 ?_
  refine lv_bipush (v := 120) hx hb dX5_isFull_4 (by decide) ?_
  refine lv_icmp_lt (tgt := 13) hx hb dX5_isFull_6 (by decide) (fun c6 => ?_) (fun c6 => ?_)
  · refine lv_iconst (v := 0) hx hb dX5_isFull_13 (by decide) ?_
    exact r_zret cX hr hlocks rfl hw ⟨(if_neg (Int32.not_le.mpr c6)).symm, rfl⟩ dX5_isFull_14
  · refine lv_iconst (v := 1) hx hb dX5_isFull_9 (by decide) ?_
    refine lv_goto (tgt := 14) hx hb dX5_isFull_10 (by decide) ?_
    exact r_zret cX hr hlocks rfl hw ⟨(if_pos (Int32.not_lt.mp c6)).symm, rfl⟩ dX5_isFull_14

set_option maxHeartbeats 4000000 in
set_option maxRecDepth 100000 in
theorem c_X5_append (l : Launch) (G : gG) {M : HM} {a b : Nat} {len : Nat} {p0 p1 p2 p3 : Int32} {T : Nat → Int32} (hM : M a = some (.inr (5, [.ref b, .int (nI len), .int p0, .int p1, .int p2, .int p3]))) (hB : M b = some (.inl (G.2 0, 120, .inl T))) (v : Int32) (hlen : len < 120) : Cv l yX5_append cX5_append 2 (rd 0 0 0) G [.ref a, .int v] M (fun M' => M' = mu (mu M b (.inl (G.2 0, 120, .inl (upd T len v)))) a (.inr (5, [.ref b, .int (nI (len + 1)), .int p0, .int p1, .int p2, .int p3]))) := by
  have hab : a ≠ b := fun z => by rw [z, hB] at hM; cases hM
  refine Cv.of (by decide) (Nat.le_of_ble_eq_true rfl) ?_
  intro p e s m args below meth c ls cX hw hlocks hr hnm hl
  have hx := cX.1
  have hb := cX.2.1
  have hl : lv_has ls 2 [(0, .ref a), (1, .int v)] := hl
  refine lv_aload_n hx hb dX5_append_0 rfl (lv_at hl 0 rfl) ?_
  refine r_get cX inX5 hw hM rfl 0 (by decide) wF_X5_9 rfl dX5_append_1 ?_
  refine lv_aload_n hx hb dX5_append_4 rfl (lv_at hl 0 rfl) ?_
  refine r_get cX inX5 hw hM rfl 1 (by decide) wF_X5_15 rfl dX5_append_5 ?_
  refine lv_iload_n hx hb dX5_append_8 rfl (lv_at hl 1 rfl) ?_
  refine r_iast cX hw hB len rfl hlen (by decide) dX5_append_9 (fun H locs hw => ?_)
  refine lv_aload_n hx hb dX5_append_10 rfl (lv_at hl 0 rfl) ?_
  refine lv_dup hx hb dX5_append_11 rfl ?_
  refine r_get cX inX5 hw ((mu_ne _ _ hab).trans hM) rfl 1 (by decide) wF_X5_15 rfl dX5_append_12 ?_
  refine lv_iconst (v := 1) hx hb dX5_append_15 (by decide) ?_
  refine lv_iadd hx hb dX5_append_16 ?_
  refine r_put (fs' := [.ref b, .int ((nI len) + 1), .int p0, .int p1, .int p2, .int p3]) cX inX5 tyX5 tyX5_ok nmX5 hw ((mu_ne _ _ hab).trans hM) rfl 1 (by decide) wF_X5_15 rfl rfl rfl rfl (Nat.le_of_ble_eq_true rfl) dX5_append_17 (fun H locs hw => ?_)
  exact r_vret cX hr hlocks hw (by rw [nI_1]) dX5_append_20

set_option maxHeartbeats 4000000 in
set_option maxRecDepth 100000 in
theorem c_X5_clear (l : Launch) (G : gG) {M : HM} {a b : Nat} {len : Nat} {p0 p1 p2 p3 : Int32} {T : Nat → Int32} (hM : M a = some (.inr (5, [.ref b, .int (nI len), .int p0, .int p1, .int p2, .int p3]))) (hB : M b = some (.inl (G.2 0, 120, .inl T))) : Cv l yX5_clear cX5_clear 1 (rd 0 0 0) G [.ref a] M (fun M' => M' = mu M a (.inr (5, [.ref b, .int 0, .int p0, .int p1, .int p2, .int p3]))) := by
  have hab : a ≠ b := fun z => by rw [z, hB] at hM; cases hM
  refine Cv.of (by decide) (Nat.le_of_ble_eq_true rfl) ?_
  intro p e s m args below meth c ls cX hw hlocks hr hnm hl
  have hx := cX.1
  have hb := cX.2.1
  have hl : lv_has ls 1 [(0, .ref a)] := hl
  refine lv_aload_n hx hb dX5_clear_0 rfl (lv_at hl 0 rfl) ?_
  refine lv_iconst (v := 0) hx hb dX5_clear_1 (by decide) ?_
  refine r_put (fs' := [.ref b, .int 0, .int p0, .int p1, .int p2, .int p3]) cX inX5 tyX5 tyX5_ok nmX5 hw hM rfl 1 (by decide) wF_X5_15 rfl rfl rfl rfl (Nat.le_of_ble_eq_true rfl) dX5_clear_2 (fun H locs hw => ?_)
  exact r_vret cX hr hlocks hw rfl dX5_clear_5

set_option maxHeartbeats 4000000 in
set_option maxRecDepth 100000 in
theorem c_X6_configure (l : Launch) (G : gG) {M : HM} {ad : Nat → Nat} {F : Nat → Nat → Int32} {nx ct : Nat} {fl T : Nat → Int32} {len : Nat} {tr : Nat → Int32} (hC0 : IsCl G M ad F nx ct fl T len tr) (x y : Int32) {B : Nat} (hv : Inv B (F 0)) : Ci l yX6_configure cX6_configure 3 .int (rd 3 0 0) G [.ref (ad 0), .int x, .int y] M (fun r M' => r = (s_configure x y (F, nx, ct, fl, T, len)).1 ∧ CL G M M' ad (s_configure x y (F, nx, ct, fl, T, len)).2) := by
  refine Ci.of (by decide) (Nat.le_of_ble_eq_true rfl) ?_
  intro p e s m args below meth c ls cX hw hlocks hr hl
  have hx := cX.1
  have hb := cX.2.1
  have hl : lv_has ls 3 [(0, .ref (ad 0)), (1, .int x), (2, .int y)] := hl
  have hC : Cl G M M ad F nx ct fl T len tr := ⟨hC0, OffC.rf M ad 359⟩
  have hI := (hC.1.sts 0 (by decide)).st
  refine lv_iload_n hx hb dX6_configure_0 rfl (lv_at hl 1 rfl) ?_
  refine lv_iconst (v := 2) hx hb dX6_configure_1 (by decide) ?_
  refine lv_iconst (v := 4) hx hb dX6_configure_2 (by decide) ?_
  refine r_Si cX hw [.int x, .int 2, .int 4] (c_X6_isBetween l G x 2 4) wM_X6_38 mw_X6_isBetween ⟨Nat.le_of_ble_eq_true rfl, Nat.le_of_ble_eq_true rfl⟩ rfl rfl hl.1 (Nat.le_of_ble_eq_true rfl) dX6_configure_3 ⟨Nat.le_of_ble_eq_true rfl, Nat.le_of_ble_eq_true rfl⟩ (fun r M1 H locs hp hw => ?_)
  obtain ⟨hr1, hq⟩ := hp
  subst hr1
  rw [hq] at hw
  refine lv_if_eq (tgt := 19) hx hb dX6_configure_6 (by decide) (fun c6 => ?_) (fun c6 => ?_)
  · refine lv_iconst (v := (-1)) hx hb dX6_configure_19 (by decide) ?_
    exact r_iret cX hr hlocks hw (by unfold s_configure; (try dsimp only); rw [if_neg (fun h => if01e c6 h.1)]; exact ⟨rfl, tr, hC⟩) dX6_configure_20
  · refine lv_iload_n hx hb dX6_configure_9 rfl (lv_at hl 2 rfl) ?_
    refine lv_iconst (v := 1) hx hb dX6_configure_10 (by decide) ?_
    refine lv_bipush (v := 8) hx hb dX6_configure_11 (by decide) ?_
    refine r_Si cX hw [.int y, .int 1, .int 8] (c_X6_isBetween l G y 1 8) wM_X6_38 mw_X6_isBetween ⟨Nat.le_of_ble_eq_true rfl, Nat.le_of_ble_eq_true rfl⟩ rfl rfl hl.1 (Nat.le_of_ble_eq_true rfl) dX6_configure_13 ⟨Nat.le_of_ble_eq_true rfl, Nat.le_of_ble_eq_true rfl⟩ (fun r M1 H locs hp hw => ?_)
    obtain ⟨hr1, hq⟩ := hp
    subst hr1
    rw [hq] at hw
    refine lv_if_ne (tgt := 21) hx hb dX6_configure_16 (by decide) (fun c16 => ?_) (fun c16 => ?_)
    · refine lv_aload_n hx hb dX6_configure_21 rfl (lv_at hl 0 rfl) ?_
      refine r_get cX inX6 hw hC.1.1 rfl 1 (by decide) wF_X6_19 rfl dX6_configure_22 ?_
      refine lv_aload_n hx hb dX6_configure_25 rfl (lv_at hl 0 rfl) ?_
      refine r_get cX inX6 hw hC.1.1 rfl 0 (by decide) wF_X6_10 rfl dX6_configure_26 ?_
      refine r_Vv cX hw hC.1.2.1 rfl [.ref (Lst ad 0 0)] (c_X3_push l G hC.1) wM_X6_42 mw_X3_push ⟨Nat.le_of_ble_eq_true rfl, Nat.le_of_ble_eq_true rfl⟩ rfl rfl hl.1 (Nat.le_of_ble_eq_true rfl) dX6_configure_29 ⟨Nat.le_of_ble_eq_true rfl, Nat.le_of_ble_eq_true rfl⟩ (fun M1 H locs hp hw => ?_)
      have hC := hC.trans hp
      have hI := ((hC.1.sts 0 (by decide)).st).re (psh_0 F nx)
      refine lv_aload_n hx hb dX6_configure_32 rfl (lv_at hl 0 rfl) ?_
      refine r_get cX inX6 hw hC.1.1 rfl 0 (by decide) wF_X6_10 rfl dX6_configure_33 ?_
      refine lv_iload_n hx hb dX6_configure_36 rfl (lv_at hl 1 rfl) ?_
      refine lv_iload_n hx hb dX6_configure_37 rfl (lv_at hl 2 rfl) ?_
      refine r_Vv cX hw hI.1.1 rfl [.int x, .int y] (c_X4_reset l G hI.1.s0 hI.1.1 x y) wM_X6_46 mw_X4_reset ⟨Nat.le_of_ble_eq_true rfl, Nat.le_of_ble_eq_true rfl⟩ rfl rfl hl.1 (Nat.le_of_ble_eq_true rfl) dX6_configure_38 ⟨Nat.le_of_ble_eq_true rfl, Nat.le_of_ble_eq_true rfl⟩ (fun M1 H locs hp hw => ?_)
      have hC := hC.st 0 (by decide) hp
      have hI := ((hC.1.sts 0 (by decide)).st).re (uF_at _ _ _)
      refine lv_aload_n hx hb dX6_configure_41 rfl (lv_at hl 0 rfl) ?_
      refine r_get cX inX6 hw hC.1.1 rfl 0 (by decide) wF_X6_10 rfl dX6_configure_42 ?_
      refine lv_iconst (v := 0) hx hb dX6_configure_45 (by decide) ?_
      have hy0 : 1 ≤ iniF x y 2 := (if01n c16).1
      refine r_Vi cX hw hI.1.1 rfl [.int 0] (c_X4_countFlowsOfEntry l G hI.1 0 hy0) wM_X6_50 mw_X4_countFlowsOfEntry ⟨Nat.le_of_ble_eq_true rfl, Nat.le_of_ble_eq_true rfl⟩ rfl rfl hl.1 (Nat.le_of_ble_eq_true rfl) dX6_configure_46 ⟨Nat.le_of_ble_eq_true rfl, Nat.le_of_ble_eq_true rfl⟩ (fun r M1 H locs hp hw => ?_)
      obtain ⟨hr1, hq⟩ := hp
      subst hr1
      rw [hq] at hw
      exact r_iret cX hr hlocks hw (by unfold s_configure; (try dsimp only); rw [if_pos ⟨(if01n c6), (if01n c16)⟩]; exact ⟨rfl, tr, hC⟩) dX6_configure_49
    · refine lv_iconst (v := (-1)) hx hb dX6_configure_19 (by decide) ?_
      exact r_iret cX hr hlocks hw (by unfold s_configure; (try dsimp only); rw [if_neg (fun h => if01e c16 h.2)]; exact ⟨rfl, tr, hC⟩) dX6_configure_20

set_option maxHeartbeats 4000000 in
set_option maxRecDepth 100000 in
theorem c_X6_setDelay (l : Launch) (G : gG) {M : HM} {ad : Nat → Nat} {F : Nat → Nat → Int32} {nx ct : Nat} {fl T : Nat → Int32} {len : Nat} {tr : Nat → Int32} (hC0 : IsCl G M ad F nx ct fl T len tr) (x y : Int32) {B : Nat} (hv : Inv B (F 0)) : Ci l yX6_setDelay cX6_setDelay 4 .int (rd 3 0 0) G [.ref (ad 0), .int x, .int y] M (fun r M' => r = (s_setP 9 0 50 x y (F, nx, ct, fl, T, len)).1 ∧ CL G M M' ad (s_setP 9 0 50 x y (F, nx, ct, fl, T, len)).2) := by
  refine Ci.of (by decide) (Nat.le_of_ble_eq_true rfl) ?_
  intro p e s m args below meth c ls cX hw hlocks hr hl
  have hx := cX.1
  have hb := cX.2.1
  have hl : lv_has ls 4 [(0, .ref (ad 0)), (1, .int x), (2, .int y)] := hl
  have hC : Cl G M M ad F nx ct fl T len tr := ⟨hC0, OffC.rf M ad 359⟩
  have hI := (hC.1.sts 0 (by decide)).st
  refine lv_aload_n hx hb dX6_setDelay_0 rfl (lv_at hl 0 rfl) ?_
  refine r_get cX inX6 hw hC.1.1 rfl 0 (by decide) wF_X6_10 rfl dX6_setDelay_1 ?_
  refine lv_iload_n hx hb dX6_setDelay_4 rfl (lv_at hl 1 rfl) ?_
  refine r_Vi cX hw hI.1.1 rfl [.int x] (c_X4_hasPath l G hI.1 x) wM_X6_54 mw_X4_hasPath ⟨Nat.le_of_ble_eq_true rfl, Nat.le_of_ble_eq_true rfl⟩ rfl rfl hl.1 (Nat.le_of_ble_eq_true rfl) dX6_setDelay_5 ⟨Nat.le_of_ble_eq_true rfl, Nat.le_of_ble_eq_true rfl⟩ (fun r M1 H locs hp hw => ?_)
  obtain ⟨hr1, hq⟩ := hp
  subst hr1
  rw [hq] at hw
  refine lv_if_eq (tgt := 21) hx hb dX6_setDelay_8 (by decide) (fun c8 => ?_) (fun c8 => ?_)
  · refine lv_iconst (v := (-1)) hx hb dX6_setDelay_21 (by decide) ?_
    exact r_iret cX hr hlocks hw (by unfold s_setP; (try dsimp only); rw [if_neg (fun h => if01e c8 h.1)]; exact ⟨rfl, tr, hC⟩) dX6_setDelay_22
  · refine lv_iload_n hx hb dX6_setDelay_11 rfl (lv_at hl 2 rfl) ?_
    refine lv_iconst (v := 0) hx hb dX6_setDelay_12 (by decide) ?_
    refine lv_bipush (v := 50) hx hb dX6_setDelay_13 (by decide) ?_
    refine r_Si cX hw [.int y, .int 0, .int 50] (c_X6_isBetween l G y 0 50) wM_X6_38 mw_X6_isBetween ⟨Nat.le_of_ble_eq_true rfl, Nat.le_of_ble_eq_true rfl⟩ rfl rfl hl.1 (Nat.le_of_ble_eq_true rfl) dX6_setDelay_15 ⟨Nat.le_of_ble_eq_true rfl, Nat.le_of_ble_eq_true rfl⟩ (fun r M1 H locs hp hw => ?_)
    obtain ⟨hr1, hq⟩ := hp
    subst hr1
    rw [hq] at hw
    refine lv_if_ne (tgt := 23) hx hb dX6_setDelay_18 (by decide) (fun c18 => ?_) (fun c18 => ?_)
    · refine lv_aload_n hx hb dX6_setDelay_23 rfl (lv_at hl 0 rfl) ?_
      refine r_get cX inX6 hw hC.1.1 rfl 1 (by decide) wF_X6_19 rfl dX6_setDelay_24 ?_
      refine lv_aload_n hx hb dX6_setDelay_27 rfl (lv_at hl 0 rfl) ?_
      refine r_get cX inX6 hw hC.1.1 rfl 0 (by decide) wF_X6_10 rfl dX6_setDelay_28 ?_
      refine r_Vv cX hw hC.1.2.1 rfl [.ref (Lst ad 0 0)] (c_X3_push l G hC.1) wM_X6_42 mw_X3_push ⟨Nat.le_of_ble_eq_true rfl, Nat.le_of_ble_eq_true rfl⟩ rfl rfl hl.1 (Nat.le_of_ble_eq_true rfl) dX6_setDelay_31 ⟨Nat.le_of_ble_eq_true rfl, Nat.le_of_ble_eq_true rfl⟩ (fun M1 H locs hp hw => ?_)
      have hC := hC.trans hp
      have hI := ((hC.1.sts 0 (by decide)).st).re (psh_0 F nx)
      refine lv_aload_n hx hb dX6_setDelay_34 rfl (lv_at hl 0 rfl) ?_
      refine r_get cX inX6 hw hC.1.1 rfl 0 (by decide) wF_X6_10 rfl dX6_setDelay_35 ?_
      refine r_get cX inX4 hw hI.1.1 rfl 9 (by decide) wF_X6_58 rfl dX6_setDelay_38 ?_
      refine lv_iload_n hx hb dX6_setDelay_41 rfl (lv_at hl 1 rfl) ?_
      obtain ⟨g_38, hg_38, hg_38_⟩ := hI.1.2.1
      obtain ⟨k, hk, hkP, hxk, hxc⟩ := path_ix hv (if01n c8)
      refine r_aald cX hw 4 rfl hg_38 k hxk hk (by decide) (hg_38_ k hk) dX6_setDelay_42 ?_
      refine r_get cX inX2 hw (hI.1.2.2.2.2.1 k hk) rfl 0 (by decide) wF_X6_62 rfl dX6_setDelay_43 ?_
      refine lv_istore_n (lv' := [(3, .int ((F 0) (9 + k))), (0, .ref (ad 0)), (1, .int x), (2, .int y)]) hx hb dX6_setDelay_46 rfl hl (by decide) rfl (fun ls hl => ?_)
      refine lv_aload_n hx hb dX6_setDelay_47 rfl (lv_at hl 1 rfl) ?_
      refine r_get cX inX6 hw hC.1.1 rfl 0 (by decide) wF_X6_10 rfl dX6_setDelay_48 ?_
      refine r_get cX inX4 hw hI.1.1 rfl 9 (by decide) wF_X6_58 rfl dX6_setDelay_51 ?_
      refine lv_iload_n hx hb dX6_setDelay_54 rfl (lv_at hl 2 rfl) ?_
      obtain ⟨g_39, hg_39, hg_39_⟩ := hI.1.2.1
      refine r_aald cX hw 4 rfl hg_39 k hxk hk (by decide) (hg_39_ k hk) dX6_setDelay_55 ?_
      refine lv_iload_n hx hb dX6_setDelay_56 rfl (lv_at hl 3 rfl) ?_
      refine r_put (fs' := [.int y, .int ((F 0) (13 + k)), .int ((F 0) (17 + k)), .int ((F 0) (21 + k)), .int ((F 0) (25 + k)), .int ((F 0) (29 + k)), .int ((F 0) (33 + k)), .int ((F 0) (37 + k))]) cX inX2 tyX2 tyX2_ok nmX2 hw (hI.1.2.2.2.2.1 k hk) rfl 0 (by decide) wF_X6_62 rfl rfl rfl rfl (Nat.le_of_ble_eq_true rfl) dX6_setDelay_57 (fun H locs hw => ?_)
      have hI := hI.pa (fs := [.int y, .int ((F 0) (13 + k)), .int ((F 0) (17 + k)), .int ((F 0) (21 + k)), .int ((F 0) (25 + k)), .int ((F 0) (29 + k)), .int ((F 0) (33 + k)), .int ((F 0) (37 + k))]) (f' := upd (F 0) (9 + k) y) k hk (by simp [paFs, upd]) (fun k h1 h2 => pk_un (by unfold isPa at h2; omega))
      have hC := hC.st 0 (by decide) hI
      have hI := ((hC.1.sts 0 (by decide)).st).re (uF_at _ _ _)
      refine lv_iload_n hx hb dX6_setDelay_60 rfl (lv_at hl 0 rfl) ?_
      exact r_iret cX hr hlocks hw (by unfold s_setP; (try dsimp only); rw [if_pos ⟨(if01n c8), (if01n c18)⟩, hxc]; exact ⟨rfl, tr, hC⟩) dX6_setDelay_61
    · refine lv_iconst (v := (-1)) hx hb dX6_setDelay_21 (by decide) ?_
      exact r_iret cX hr hlocks hw (by unfold s_setP; (try dsimp only); rw [if_neg (fun h => if01e c18 h.2)]; exact ⟨rfl, tr, hC⟩) dX6_setDelay_22

set_option maxHeartbeats 4000000 in
set_option maxRecDepth 100000 in
theorem c_X6_setRate (l : Launch) (G : gG) {M : HM} {ad : Nat → Nat} {F : Nat → Nat → Int32} {nx ct : Nat} {fl T : Nat → Int32} {len : Nat} {tr : Nat → Int32} (hC0 : IsCl G M ad F nx ct fl T len tr) (x y : Int32) {B : Nat} (hv : Inv B (F 0)) : Ci l yX6_setRate cX6_setRate 4 .int (rd 3 0 0) G [.ref (ad 0), .int x, .int y] M (fun r M' => r = (s_setP 13 1 100 x y (F, nx, ct, fl, T, len)).1 ∧ CL G M M' ad (s_setP 13 1 100 x y (F, nx, ct, fl, T, len)).2) := by
  refine Ci.of (by decide) (Nat.le_of_ble_eq_true rfl) ?_
  intro p e s m args below meth c ls cX hw hlocks hr hl
  have hx := cX.1
  have hb := cX.2.1
  have hl : lv_has ls 4 [(0, .ref (ad 0)), (1, .int x), (2, .int y)] := hl
  have hC : Cl G M M ad F nx ct fl T len tr := ⟨hC0, OffC.rf M ad 359⟩
  have hI := (hC.1.sts 0 (by decide)).st
  refine lv_aload_n hx hb dX6_setRate_0 rfl (lv_at hl 0 rfl) ?_
  refine r_get cX inX6 hw hC.1.1 rfl 0 (by decide) wF_X6_10 rfl dX6_setRate_1 ?_
  refine lv_iload_n hx hb dX6_setRate_4 rfl (lv_at hl 1 rfl) ?_
  refine r_Vi cX hw hI.1.1 rfl [.int x] (c_X4_hasPath l G hI.1 x) wM_X6_54 mw_X4_hasPath ⟨Nat.le_of_ble_eq_true rfl, Nat.le_of_ble_eq_true rfl⟩ rfl rfl hl.1 (Nat.le_of_ble_eq_true rfl) dX6_setRate_5 ⟨Nat.le_of_ble_eq_true rfl, Nat.le_of_ble_eq_true rfl⟩ (fun r M1 H locs hp hw => ?_)
  obtain ⟨hr1, hq⟩ := hp
  subst hr1
  rw [hq] at hw
  refine lv_if_eq (tgt := 21) hx hb dX6_setRate_8 (by decide) (fun c8 => ?_) (fun c8 => ?_)
  · refine lv_iconst (v := (-1)) hx hb dX6_setRate_21 (by decide) ?_
    exact r_iret cX hr hlocks hw (by unfold s_setP; (try dsimp only); rw [if_neg (fun h => if01e c8 h.1)]; exact ⟨rfl, tr, hC⟩) dX6_setRate_22
  · refine lv_iload_n hx hb dX6_setRate_11 rfl (lv_at hl 2 rfl) ?_
    refine lv_iconst (v := 1) hx hb dX6_setRate_12 (by decide) ?_
    refine lv_bipush (v := 100) hx hb dX6_setRate_13 (by decide) ?_
    refine r_Si cX hw [.int y, .int 1, .int 100] (c_X6_isBetween l G y 1 100) wM_X6_38 mw_X6_isBetween ⟨Nat.le_of_ble_eq_true rfl, Nat.le_of_ble_eq_true rfl⟩ rfl rfl hl.1 (Nat.le_of_ble_eq_true rfl) dX6_setRate_15 ⟨Nat.le_of_ble_eq_true rfl, Nat.le_of_ble_eq_true rfl⟩ (fun r M1 H locs hp hw => ?_)
    obtain ⟨hr1, hq⟩ := hp
    subst hr1
    rw [hq] at hw
    refine lv_if_ne (tgt := 23) hx hb dX6_setRate_18 (by decide) (fun c18 => ?_) (fun c18 => ?_)
    · refine lv_aload_n hx hb dX6_setRate_23 rfl (lv_at hl 0 rfl) ?_
      refine r_get cX inX6 hw hC.1.1 rfl 1 (by decide) wF_X6_19 rfl dX6_setRate_24 ?_
      refine lv_aload_n hx hb dX6_setRate_27 rfl (lv_at hl 0 rfl) ?_
      refine r_get cX inX6 hw hC.1.1 rfl 0 (by decide) wF_X6_10 rfl dX6_setRate_28 ?_
      refine r_Vv cX hw hC.1.2.1 rfl [.ref (Lst ad 0 0)] (c_X3_push l G hC.1) wM_X6_42 mw_X3_push ⟨Nat.le_of_ble_eq_true rfl, Nat.le_of_ble_eq_true rfl⟩ rfl rfl hl.1 (Nat.le_of_ble_eq_true rfl) dX6_setRate_31 ⟨Nat.le_of_ble_eq_true rfl, Nat.le_of_ble_eq_true rfl⟩ (fun M1 H locs hp hw => ?_)
      have hC := hC.trans hp
      have hI := ((hC.1.sts 0 (by decide)).st).re (psh_0 F nx)
      refine lv_aload_n hx hb dX6_setRate_34 rfl (lv_at hl 0 rfl) ?_
      refine r_get cX inX6 hw hC.1.1 rfl 0 (by decide) wF_X6_10 rfl dX6_setRate_35 ?_
      refine r_get cX inX4 hw hI.1.1 rfl 9 (by decide) wF_X6_58 rfl dX6_setRate_38 ?_
      refine lv_iload_n hx hb dX6_setRate_41 rfl (lv_at hl 1 rfl) ?_
      obtain ⟨g_40, hg_40, hg_40_⟩ := hI.1.2.1
      obtain ⟨k, hk, hkP, hxk, hxc⟩ := path_ix hv (if01n c8)
      refine r_aald cX hw 4 rfl hg_40 k hxk hk (by decide) (hg_40_ k hk) dX6_setRate_42 ?_
      refine r_get cX inX2 hw (hI.1.2.2.2.2.1 k hk) rfl 1 (by decide) wF_X6_68 rfl dX6_setRate_43 ?_
      refine lv_istore_n (lv' := [(3, .int ((F 0) (13 + k))), (0, .ref (ad 0)), (1, .int x), (2, .int y)]) hx hb dX6_setRate_46 rfl hl (by decide) rfl (fun ls hl => ?_)
      refine lv_aload_n hx hb dX6_setRate_47 rfl (lv_at hl 1 rfl) ?_
      refine r_get cX inX6 hw hC.1.1 rfl 0 (by decide) wF_X6_10 rfl dX6_setRate_48 ?_
      refine r_get cX inX4 hw hI.1.1 rfl 9 (by decide) wF_X6_58 rfl dX6_setRate_51 ?_
      refine lv_iload_n hx hb dX6_setRate_54 rfl (lv_at hl 2 rfl) ?_
      obtain ⟨g_41, hg_41, hg_41_⟩ := hI.1.2.1
      refine r_aald cX hw 4 rfl hg_41 k hxk hk (by decide) (hg_41_ k hk) dX6_setRate_55 ?_
      refine lv_iload_n hx hb dX6_setRate_56 rfl (lv_at hl 3 rfl) ?_
      refine r_put (fs' := [.int ((F 0) (9 + k)), .int y, .int ((F 0) (17 + k)), .int ((F 0) (21 + k)), .int ((F 0) (25 + k)), .int ((F 0) (29 + k)), .int ((F 0) (33 + k)), .int ((F 0) (37 + k))]) cX inX2 tyX2 tyX2_ok nmX2 hw (hI.1.2.2.2.2.1 k hk) rfl 1 (by decide) wF_X6_68 rfl rfl rfl rfl (Nat.le_of_ble_eq_true rfl) dX6_setRate_57 (fun H locs hw => ?_)
      have hI := hI.pa (fs := [.int ((F 0) (9 + k)), .int y, .int ((F 0) (17 + k)), .int ((F 0) (21 + k)), .int ((F 0) (25 + k)), .int ((F 0) (29 + k)), .int ((F 0) (33 + k)), .int ((F 0) (37 + k))]) (f' := upd (F 0) (13 + k) y) k hk (by simp [paFs, upd]) (fun k h1 h2 => pk_un (by unfold isPa at h2; omega))
      have hC := hC.st 0 (by decide) hI
      have hI := ((hC.1.sts 0 (by decide)).st).re (uF_at _ _ _)
      refine lv_iload_n hx hb dX6_setRate_60 rfl (lv_at hl 0 rfl) ?_
      exact r_iret cX hr hlocks hw (by unfold s_setP; (try dsimp only); rw [if_pos ⟨(if01n c8), (if01n c18)⟩, hxc]; exact ⟨rfl, tr, hC⟩) dX6_setRate_61
    · refine lv_iconst (v := (-1)) hx hb dX6_setRate_21 (by decide) ?_
      exact r_iret cX hr hlocks hw (by unfold s_setP; (try dsimp only); rw [if_neg (fun h => if01e c18 h.2)]; exact ⟨rfl, tr, hC⟩) dX6_setRate_22

set_option maxHeartbeats 4000000 in
set_option maxRecDepth 100000 in
theorem c_X6_setRemoteLevel (l : Launch) (G : gG) {M : HM} {ad : Nat → Nat} {F : Nat → Nat → Int32} {nx ct : Nat} {fl T : Nat → Int32} {len : Nat} {tr : Nat → Int32} (hC0 : IsCl G M ad F nx ct fl T len tr) (x y : Int32) {B : Nat} (hv : Inv B (F 0)) : Ci l yX6_setRemoteLevel cX6_setRemoteLevel 4 .int (rd 3 0 0) G [.ref (ad 0), .int x, .int y] M (fun r M' => r = (s_setP 17 0 7 x y (F, nx, ct, fl, T, len)).1 ∧ CL G M M' ad (s_setP 17 0 7 x y (F, nx, ct, fl, T, len)).2) := by
  refine Ci.of (by decide) (Nat.le_of_ble_eq_true rfl) ?_
  intro p e s m args below meth c ls cX hw hlocks hr hl
  have hx := cX.1
  have hb := cX.2.1
  have hl : lv_has ls 4 [(0, .ref (ad 0)), (1, .int x), (2, .int y)] := hl
  have hC : Cl G M M ad F nx ct fl T len tr := ⟨hC0, OffC.rf M ad 359⟩
  have hI := (hC.1.sts 0 (by decide)).st
  refine lv_aload_n hx hb dX6_setRemoteLevel_0 rfl (lv_at hl 0 rfl) ?_
  refine r_get cX inX6 hw hC.1.1 rfl 0 (by decide) wF_X6_10 rfl dX6_setRemoteLevel_1 ?_
  refine lv_iload_n hx hb dX6_setRemoteLevel_4 rfl (lv_at hl 1 rfl) ?_
  refine r_Vi cX hw hI.1.1 rfl [.int x] (c_X4_hasPath l G hI.1 x) wM_X6_54 mw_X4_hasPath ⟨Nat.le_of_ble_eq_true rfl, Nat.le_of_ble_eq_true rfl⟩ rfl rfl hl.1 (Nat.le_of_ble_eq_true rfl) dX6_setRemoteLevel_5 ⟨Nat.le_of_ble_eq_true rfl, Nat.le_of_ble_eq_true rfl⟩ (fun r M1 H locs hp hw => ?_)
  obtain ⟨hr1, hq⟩ := hp
  subst hr1
  rw [hq] at hw
  refine lv_if_eq (tgt := 21) hx hb dX6_setRemoteLevel_8 (by decide) (fun c8 => ?_) (fun c8 => ?_)
  · refine lv_iconst (v := (-1)) hx hb dX6_setRemoteLevel_21 (by decide) ?_
    exact r_iret cX hr hlocks hw (by unfold s_setP; (try dsimp only); rw [if_neg (fun h => if01e c8 h.1)]; exact ⟨rfl, tr, hC⟩) dX6_setRemoteLevel_22
  · refine lv_iload_n hx hb dX6_setRemoteLevel_11 rfl (lv_at hl 2 rfl) ?_
    refine lv_iconst (v := 0) hx hb dX6_setRemoteLevel_12 (by decide) ?_
    refine lv_bipush (v := 7) hx hb dX6_setRemoteLevel_13 (by decide) ?_
    refine r_Si cX hw [.int y, .int 0, .int 7] (c_X6_isBetween l G y 0 7) wM_X6_38 mw_X6_isBetween ⟨Nat.le_of_ble_eq_true rfl, Nat.le_of_ble_eq_true rfl⟩ rfl rfl hl.1 (Nat.le_of_ble_eq_true rfl) dX6_setRemoteLevel_15 ⟨Nat.le_of_ble_eq_true rfl, Nat.le_of_ble_eq_true rfl⟩ (fun r M1 H locs hp hw => ?_)
    obtain ⟨hr1, hq⟩ := hp
    subst hr1
    rw [hq] at hw
    refine lv_if_ne (tgt := 23) hx hb dX6_setRemoteLevel_18 (by decide) (fun c18 => ?_) (fun c18 => ?_)
    · refine lv_aload_n hx hb dX6_setRemoteLevel_23 rfl (lv_at hl 0 rfl) ?_
      refine r_get cX inX6 hw hC.1.1 rfl 1 (by decide) wF_X6_19 rfl dX6_setRemoteLevel_24 ?_
      refine lv_aload_n hx hb dX6_setRemoteLevel_27 rfl (lv_at hl 0 rfl) ?_
      refine r_get cX inX6 hw hC.1.1 rfl 0 (by decide) wF_X6_10 rfl dX6_setRemoteLevel_28 ?_
      refine r_Vv cX hw hC.1.2.1 rfl [.ref (Lst ad 0 0)] (c_X3_push l G hC.1) wM_X6_42 mw_X3_push ⟨Nat.le_of_ble_eq_true rfl, Nat.le_of_ble_eq_true rfl⟩ rfl rfl hl.1 (Nat.le_of_ble_eq_true rfl) dX6_setRemoteLevel_31 ⟨Nat.le_of_ble_eq_true rfl, Nat.le_of_ble_eq_true rfl⟩ (fun M1 H locs hp hw => ?_)
      have hC := hC.trans hp
      have hI := ((hC.1.sts 0 (by decide)).st).re (psh_0 F nx)
      refine lv_aload_n hx hb dX6_setRemoteLevel_34 rfl (lv_at hl 0 rfl) ?_
      refine r_get cX inX6 hw hC.1.1 rfl 0 (by decide) wF_X6_10 rfl dX6_setRemoteLevel_35 ?_
      refine r_get cX inX4 hw hI.1.1 rfl 9 (by decide) wF_X6_58 rfl dX6_setRemoteLevel_38 ?_
      refine lv_iload_n hx hb dX6_setRemoteLevel_41 rfl (lv_at hl 1 rfl) ?_
      obtain ⟨g_42, hg_42, hg_42_⟩ := hI.1.2.1
      obtain ⟨k, hk, hkP, hxk, hxc⟩ := path_ix hv (if01n c8)
      refine r_aald cX hw 4 rfl hg_42 k hxk hk (by decide) (hg_42_ k hk) dX6_setRemoteLevel_42 ?_
      refine r_get cX inX2 hw (hI.1.2.2.2.2.1 k hk) rfl 2 (by decide) wF_X6_71 rfl dX6_setRemoteLevel_43 ?_
      refine lv_istore_n (lv' := [(3, .int ((F 0) (17 + k))), (0, .ref (ad 0)), (1, .int x), (2, .int y)]) hx hb dX6_setRemoteLevel_46 rfl hl (by decide) rfl (fun ls hl => ?_)
      refine lv_aload_n hx hb dX6_setRemoteLevel_47 rfl (lv_at hl 1 rfl) ?_
      refine r_get cX inX6 hw hC.1.1 rfl 0 (by decide) wF_X6_10 rfl dX6_setRemoteLevel_48 ?_
      refine r_get cX inX4 hw hI.1.1 rfl 9 (by decide) wF_X6_58 rfl dX6_setRemoteLevel_51 ?_
      refine lv_iload_n hx hb dX6_setRemoteLevel_54 rfl (lv_at hl 2 rfl) ?_
      obtain ⟨g_43, hg_43, hg_43_⟩ := hI.1.2.1
      refine r_aald cX hw 4 rfl hg_43 k hxk hk (by decide) (hg_43_ k hk) dX6_setRemoteLevel_55 ?_
      refine lv_iload_n hx hb dX6_setRemoteLevel_56 rfl (lv_at hl 3 rfl) ?_
      refine r_put (fs' := [.int ((F 0) (9 + k)), .int ((F 0) (13 + k)), .int y, .int ((F 0) (21 + k)), .int ((F 0) (25 + k)), .int ((F 0) (29 + k)), .int ((F 0) (33 + k)), .int ((F 0) (37 + k))]) cX inX2 tyX2 tyX2_ok nmX2 hw (hI.1.2.2.2.2.1 k hk) rfl 2 (by decide) wF_X6_71 rfl rfl rfl rfl (Nat.le_of_ble_eq_true rfl) dX6_setRemoteLevel_57 (fun H locs hw => ?_)
      have hI := hI.pa (fs := [.int ((F 0) (9 + k)), .int ((F 0) (13 + k)), .int y, .int ((F 0) (21 + k)), .int ((F 0) (25 + k)), .int ((F 0) (29 + k)), .int ((F 0) (33 + k)), .int ((F 0) (37 + k))]) (f' := upd (F 0) (17 + k) y) k hk (by simp [paFs, upd]) (fun k h1 h2 => pk_un (by unfold isPa at h2; omega))
      have hC := hC.st 0 (by decide) hI
      have hI := ((hC.1.sts 0 (by decide)).st).re (uF_at _ _ _)
      refine lv_iload_n hx hb dX6_setRemoteLevel_60 rfl (lv_at hl 0 rfl) ?_
      exact r_iret cX hr hlocks hw (by unfold s_setP; (try dsimp only); rw [if_pos ⟨(if01n c8), (if01n c18)⟩, hxc]; exact ⟨rfl, tr, hC⟩) dX6_setRemoteLevel_61
    · refine lv_iconst (v := (-1)) hx hb dX6_setRemoteLevel_21 (by decide) ?_
      exact r_iret cX hr hlocks hw (by unfold s_setP; (try dsimp only); rw [if_neg (fun h => if01e c18 h.2)]; exact ⟨rfl, tr, hC⟩) dX6_setRemoteLevel_22

set_option maxHeartbeats 4000000 in
set_option maxRecDepth 100000 in
theorem c_X6_setMode (l : Launch) (G : gG) {M : HM} {ad : Nat → Nat} {F : Nat → Nat → Int32} {nx ct : Nat} {fl T : Nat → Int32} {len : Nat} {tr : Nat → Int32} (hC0 : IsCl G M ad F nx ct fl T len tr) (x : Int32) {B : Nat} (hv : Inv B (F 0)) : Ci l yX6_setMode cX6_setMode 3 .int (rd 3 0 0) G [.ref (ad 0), .int x] M (fun r M' => r = (s_setS 5 0 3 x (F, nx, ct, fl, T, len)).1 ∧ CL G M M' ad (s_setS 5 0 3 x (F, nx, ct, fl, T, len)).2) := by
  refine Ci.of (by decide) (Nat.le_of_ble_eq_true rfl) ?_
  intro p e s m args below meth c ls cX hw hlocks hr hl
  have hx := cX.1
  have hb := cX.2.1
  have hl : lv_has ls 3 [(0, .ref (ad 0)), (1, .int x)] := hl
  have hC : Cl G M M ad F nx ct fl T len tr := ⟨hC0, OffC.rf M ad 359⟩
  have hI := (hC.1.sts 0 (by decide)).st
  refine lv_iload_n hx hb dX6_setMode_0 rfl (lv_at hl 1 rfl) ?_
  refine lv_iconst (v := 0) hx hb dX6_setMode_1 (by decide) ?_
  refine lv_iconst (v := 3) hx hb dX6_setMode_2 (by decide) ?_
  refine r_Si cX hw [.int x, .int 0, .int 3] (c_X6_isBetween l G x 0 3) wM_X6_38 mw_X6_isBetween ⟨Nat.le_of_ble_eq_true rfl, Nat.le_of_ble_eq_true rfl⟩ rfl rfl hl.1 (Nat.le_of_ble_eq_true rfl) dX6_setMode_3 ⟨Nat.le_of_ble_eq_true rfl, Nat.le_of_ble_eq_true rfl⟩ (fun r M1 H locs hp hw => ?_)
  obtain ⟨hr1, hq⟩ := hp
  subst hr1
  rw [hq] at hw
  refine lv_if_ne (tgt := 11) hx hb dX6_setMode_6 (by decide) (fun c6 => ?_) (fun c6 => ?_)
  · refine lv_aload_n hx hb dX6_setMode_11 rfl (lv_at hl 0 rfl) ?_
    refine r_get cX inX6 hw hC.1.1 rfl 1 (by decide) wF_X6_19 rfl dX6_setMode_12 ?_
    refine lv_aload_n hx hb dX6_setMode_15 rfl (lv_at hl 0 rfl) ?_
    refine r_get cX inX6 hw hC.1.1 rfl 0 (by decide) wF_X6_10 rfl dX6_setMode_16 ?_
    refine r_Vv cX hw hC.1.2.1 rfl [.ref (Lst ad 0 0)] (c_X3_push l G hC.1) wM_X6_42 mw_X3_push ⟨Nat.le_of_ble_eq_true rfl, Nat.le_of_ble_eq_true rfl⟩ rfl rfl hl.1 (Nat.le_of_ble_eq_true rfl) dX6_setMode_19 ⟨Nat.le_of_ble_eq_true rfl, Nat.le_of_ble_eq_true rfl⟩ (fun M1 H locs hp hw => ?_)
    have hC := hC.trans hp
    have hI := ((hC.1.sts 0 (by decide)).st).re (psh_0 F nx)
    refine lv_aload_n hx hb dX6_setMode_22 rfl (lv_at hl 0 rfl) ?_
    refine r_get cX inX6 hw hC.1.1 rfl 0 (by decide) wF_X6_10 rfl dX6_setMode_23 ?_
    refine r_get cX inX4 hw hI.1.1 rfl 3 (by decide) wF_X6_74 rfl dX6_setMode_26 ?_
    refine lv_istore_n (lv' := [(2, .int ((F 0) 5)), (0, .ref (ad 0)), (1, .int x)]) hx hb dX6_setMode_29 rfl hl (by decide) rfl (fun ls hl => ?_)
    refine lv_aload_n hx hb dX6_setMode_30 rfl (lv_at hl 1 rfl) ?_
    refine r_get cX inX6 hw hC.1.1 rfl 0 (by decide) wF_X6_10 rfl dX6_setMode_31 ?_
    refine lv_iload_n hx hb dX6_setMode_34 rfl (lv_at hl 2 rfl) ?_
    refine r_put (fs' := stFs (Lst ad 0) (upd (F 0) 5 x)) cX inX4 tyX4 tyX4_ok nmX4 hw hI.1.1 rfl 3 (by decide) wF_X6_74 rfl rfl rfl rfl (Nat.le_of_ble_eq_true rfl) dX6_setMode_35 (fun H locs hw => ?_)
    have hI := hI.sc (f' := upd (F 0) 5 x) (fun k h1 _ => pk_un (by omega))
    have hC := hC.st 0 (by decide) hI
    have hI := ((hC.1.sts 0 (by decide)).st).re (uF_at _ _ _)
    refine lv_iload_n hx hb dX6_setMode_38 rfl (lv_at hl 0 rfl) ?_
    exact r_iret cX hr hlocks hw (by unfold s_setS; (try dsimp only); rw [if_pos (if01n c6)]; exact ⟨rfl, tr, hC⟩) dX6_setMode_39
  · refine lv_iconst (v := (-1)) hx hb dX6_setMode_9 (by decide) ?_
    exact r_iret cX hr hlocks hw (by unfold s_setS; (try dsimp only); rw [if_neg (fun h => if01e c6 h)]; exact ⟨rfl, tr, hC⟩) dX6_setMode_10

set_option maxHeartbeats 4000000 in
set_option maxRecDepth 100000 in
theorem c_X6_setDetection (l : Launch) (G : gG) {M : HM} {ad : Nat → Nat} {F : Nat → Nat → Int32} {nx ct : Nat} {fl T : Nat → Int32} {len : Nat} {tr : Nat → Int32} (hC0 : IsCl G M ad F nx ct fl T len tr) (x : Int32) {B : Nat} (hv : Inv B (F 0)) : Ci l yX6_setDetection cX6_setDetection 3 .int (rd 3 0 0) G [.ref (ad 0), .int x] M (fun r M' => r = (s_setS 4 0 1 x (F, nx, ct, fl, T, len)).1 ∧ CL G M M' ad (s_setS 4 0 1 x (F, nx, ct, fl, T, len)).2) := by
  refine Ci.of (by decide) (Nat.le_of_ble_eq_true rfl) ?_
  intro p e s m args below meth c ls cX hw hlocks hr hl
  have hx := cX.1
  have hb := cX.2.1
  have hl : lv_has ls 3 [(0, .ref (ad 0)), (1, .int x)] := hl
  have hC : Cl G M M ad F nx ct fl T len tr := ⟨hC0, OffC.rf M ad 359⟩
  have hI := (hC.1.sts 0 (by decide)).st
  refine lv_iload_n hx hb dX6_setDetection_0 rfl (lv_at hl 1 rfl) ?_
  refine lv_iconst (v := 0) hx hb dX6_setDetection_1 (by decide) ?_
  refine lv_iconst (v := 1) hx hb dX6_setDetection_2 (by decide) ?_
  refine r_Si cX hw [.int x, .int 0, .int 1] (c_X6_isBetween l G x 0 1) wM_X6_38 mw_X6_isBetween ⟨Nat.le_of_ble_eq_true rfl, Nat.le_of_ble_eq_true rfl⟩ rfl rfl hl.1 (Nat.le_of_ble_eq_true rfl) dX6_setDetection_3 ⟨Nat.le_of_ble_eq_true rfl, Nat.le_of_ble_eq_true rfl⟩ (fun r M1 H locs hp hw => ?_)
  obtain ⟨hr1, hq⟩ := hp
  subst hr1
  rw [hq] at hw
  refine lv_if_ne (tgt := 11) hx hb dX6_setDetection_6 (by decide) (fun c6 => ?_) (fun c6 => ?_)
  · refine lv_aload_n hx hb dX6_setDetection_11 rfl (lv_at hl 0 rfl) ?_
    refine r_get cX inX6 hw hC.1.1 rfl 1 (by decide) wF_X6_19 rfl dX6_setDetection_12 ?_
    refine lv_aload_n hx hb dX6_setDetection_15 rfl (lv_at hl 0 rfl) ?_
    refine r_get cX inX6 hw hC.1.1 rfl 0 (by decide) wF_X6_10 rfl dX6_setDetection_16 ?_
    refine r_Vv cX hw hC.1.2.1 rfl [.ref (Lst ad 0 0)] (c_X3_push l G hC.1) wM_X6_42 mw_X3_push ⟨Nat.le_of_ble_eq_true rfl, Nat.le_of_ble_eq_true rfl⟩ rfl rfl hl.1 (Nat.le_of_ble_eq_true rfl) dX6_setDetection_19 ⟨Nat.le_of_ble_eq_true rfl, Nat.le_of_ble_eq_true rfl⟩ (fun M1 H locs hp hw => ?_)
    have hC := hC.trans hp
    have hI := ((hC.1.sts 0 (by decide)).st).re (psh_0 F nx)
    refine lv_aload_n hx hb dX6_setDetection_22 rfl (lv_at hl 0 rfl) ?_
    refine r_get cX inX6 hw hC.1.1 rfl 0 (by decide) wF_X6_10 rfl dX6_setDetection_23 ?_
    refine r_get cX inX4 hw hI.1.1 rfl 4 (by decide) wF_X6_77 rfl dX6_setDetection_26 ?_
    refine lv_istore_n (lv' := [(2, .int ((F 0) 4)), (0, .ref (ad 0)), (1, .int x)]) hx hb dX6_setDetection_29 rfl hl (by decide) rfl (fun ls hl => ?_)
    refine lv_aload_n hx hb dX6_setDetection_30 rfl (lv_at hl 1 rfl) ?_
    refine r_get cX inX6 hw hC.1.1 rfl 0 (by decide) wF_X6_10 rfl dX6_setDetection_31 ?_
    refine lv_iload_n hx hb dX6_setDetection_34 rfl (lv_at hl 2 rfl) ?_
    refine r_put (fs' := stFs (Lst ad 0) (upd (F 0) 4 x)) cX inX4 tyX4 tyX4_ok nmX4 hw hI.1.1 rfl 4 (by decide) wF_X6_77 rfl rfl rfl rfl (Nat.le_of_ble_eq_true rfl) dX6_setDetection_35 (fun H locs hw => ?_)
    have hI := hI.sc (f' := upd (F 0) 4 x) (fun k h1 _ => pk_un (by omega))
    have hC := hC.st 0 (by decide) hI
    have hI := ((hC.1.sts 0 (by decide)).st).re (uF_at _ _ _)
    refine lv_iload_n hx hb dX6_setDetection_38 rfl (lv_at hl 0 rfl) ?_
    exact r_iret cX hr hlocks hw (by unfold s_setS; (try dsimp only); rw [if_pos (if01n c6)]; exact ⟨rfl, tr, hC⟩) dX6_setDetection_39
  · refine lv_iconst (v := (-1)) hx hb dX6_setDetection_9 (by decide) ?_
    exact r_iret cX hr hlocks hw (by unfold s_setS; (try dsimp only); rw [if_neg (fun h => if01e c6 h)]; exact ⟨rfl, tr, hC⟩) dX6_setDetection_10

set_option maxHeartbeats 4000000 in
set_option maxRecDepth 100000 in
theorem c_X6_setGap (l : Launch) (G : gG) {M : HM} {ad : Nat → Nat} {F : Nat → Nat → Int32} {nx ct : Nat} {fl T : Nat → Int32} {len : Nat} {tr : Nat → Int32} (hC0 : IsCl G M ad F nx ct fl T len tr) (x : Int32) {B : Nat} (hv : Inv B (F 0)) : Ci l yX6_setGap cX6_setGap 3 .int (rd 3 0 0) G [.ref (ad 0), .int x] M (fun r M' => r = (s_setS 3 1 200 x (F, nx, ct, fl, T, len)).1 ∧ CL G M M' ad (s_setS 3 1 200 x (F, nx, ct, fl, T, len)).2) := by
  refine Ci.of (by decide) (Nat.le_of_ble_eq_true rfl) ?_
  intro p e s m args below meth c ls cX hw hlocks hr hl
  have hx := cX.1
  have hb := cX.2.1
  have hl : lv_has ls 3 [(0, .ref (ad 0)), (1, .int x)] := hl
  have hC : Cl G M M ad F nx ct fl T len tr := ⟨hC0, OffC.rf M ad 359⟩
  have hI := (hC.1.sts 0 (by decide)).st
  refine lv_iload_n hx hb dX6_setGap_0 rfl (lv_at hl 1 rfl) ?_
  refine lv_iconst (v := 1) hx hb dX6_setGap_1 (by decide) ?_
  refine lv_sipush (v := 200) hx hb dX6_setGap_2 (by decide) ?_
  refine r_Si cX hw [.int x, .int 1, .int 200] (c_X6_isBetween l G x 1 200) wM_X6_38 mw_X6_isBetween ⟨Nat.le_of_ble_eq_true rfl, Nat.le_of_ble_eq_true rfl⟩ rfl rfl hl.1 (Nat.le_of_ble_eq_true rfl) dX6_setGap_5 ⟨Nat.le_of_ble_eq_true rfl, Nat.le_of_ble_eq_true rfl⟩ (fun r M1 H locs hp hw => ?_)
  obtain ⟨hr1, hq⟩ := hp
  subst hr1
  rw [hq] at hw
  refine lv_if_ne (tgt := 13) hx hb dX6_setGap_8 (by decide) (fun c8 => ?_) (fun c8 => ?_)
  · refine lv_aload_n hx hb dX6_setGap_13 rfl (lv_at hl 0 rfl) ?_
    refine r_get cX inX6 hw hC.1.1 rfl 1 (by decide) wF_X6_19 rfl dX6_setGap_14 ?_
    refine lv_aload_n hx hb dX6_setGap_17 rfl (lv_at hl 0 rfl) ?_
    refine r_get cX inX6 hw hC.1.1 rfl 0 (by decide) wF_X6_10 rfl dX6_setGap_18 ?_
    refine r_Vv cX hw hC.1.2.1 rfl [.ref (Lst ad 0 0)] (c_X3_push l G hC.1) wM_X6_42 mw_X3_push ⟨Nat.le_of_ble_eq_true rfl, Nat.le_of_ble_eq_true rfl⟩ rfl rfl hl.1 (Nat.le_of_ble_eq_true rfl) dX6_setGap_21 ⟨Nat.le_of_ble_eq_true rfl, Nat.le_of_ble_eq_true rfl⟩ (fun M1 H locs hp hw => ?_)
    have hC := hC.trans hp
    have hI := ((hC.1.sts 0 (by decide)).st).re (psh_0 F nx)
    refine lv_aload_n hx hb dX6_setGap_24 rfl (lv_at hl 0 rfl) ?_
    refine r_get cX inX6 hw hC.1.1 rfl 0 (by decide) wF_X6_10 rfl dX6_setGap_25 ?_
    refine r_get cX inX4 hw hI.1.1 rfl 5 (by decide) wF_X6_80 rfl dX6_setGap_28 ?_
    refine lv_istore_n (lv' := [(2, .int ((F 0) 3)), (0, .ref (ad 0)), (1, .int x)]) hx hb dX6_setGap_31 rfl hl (by decide) rfl (fun ls hl => ?_)
    refine lv_aload_n hx hb dX6_setGap_32 rfl (lv_at hl 1 rfl) ?_
    refine r_get cX inX6 hw hC.1.1 rfl 0 (by decide) wF_X6_10 rfl dX6_setGap_33 ?_
    refine lv_iload_n hx hb dX6_setGap_36 rfl (lv_at hl 2 rfl) ?_
    refine r_put (fs' := stFs (Lst ad 0) (upd (F 0) 3 x)) cX inX4 tyX4 tyX4_ok nmX4 hw hI.1.1 rfl 5 (by decide) wF_X6_80 rfl rfl rfl rfl (Nat.le_of_ble_eq_true rfl) dX6_setGap_37 (fun H locs hw => ?_)
    have hI := hI.sc (f' := upd (F 0) 3 x) (fun k h1 _ => pk_un (by omega))
    have hC := hC.st 0 (by decide) hI
    have hI := ((hC.1.sts 0 (by decide)).st).re (uF_at _ _ _)
    refine lv_iload_n hx hb dX6_setGap_40 rfl (lv_at hl 0 rfl) ?_
    exact r_iret cX hr hlocks hw (by unfold s_setS; (try dsimp only); rw [if_pos (if01n c8)]; exact ⟨rfl, tr, hC⟩) dX6_setGap_41
  · refine lv_iconst (v := (-1)) hx hb dX6_setGap_11 (by decide) ?_
    exact r_iret cX hr hlocks hw (by unfold s_setS; (try dsimp only); rw [if_neg (fun h => if01e c8 h)]; exact ⟨rfl, tr, hC⟩) dX6_setGap_12

set_option maxHeartbeats 4000000 in
set_option maxRecDepth 100000 in
theorem c_X6_setShift (l : Launch) (G : gG) {M : HM} {ad : Nat → Nat} {F : Nat → Nat → Int32} {nx ct : Nat} {fl T : Nat → Int32} {len : Nat} {tr : Nat → Int32} (hC0 : IsCl G M ad F nx ct fl T len tr) (x : Int32) {B : Nat} (hv : Inv B (F 0)) : Ci l yX6_setShift cX6_setShift 3 .int (rd 3 0 0) G [.ref (ad 0), .int x] M (fun r M' => r = (s_setS 6 1 4 x (F, nx, ct, fl, T, len)).1 ∧ CL G M M' ad (s_setS 6 1 4 x (F, nx, ct, fl, T, len)).2) := by
  refine Ci.of (by decide) (Nat.le_of_ble_eq_true rfl) ?_
  intro p e s m args below meth c ls cX hw hlocks hr hl
  have hx := cX.1
  have hb := cX.2.1
  have hl : lv_has ls 3 [(0, .ref (ad 0)), (1, .int x)] := hl
  have hC : Cl G M M ad F nx ct fl T len tr := ⟨hC0, OffC.rf M ad 359⟩
  have hI := (hC.1.sts 0 (by decide)).st
  refine lv_iload_n hx hb dX6_setShift_0 rfl (lv_at hl 1 rfl) ?_
  refine lv_iconst (v := 1) hx hb dX6_setShift_1 (by decide) ?_
  refine lv_iconst (v := 4) hx hb dX6_setShift_2 (by decide) ?_
  refine r_Si cX hw [.int x, .int 1, .int 4] (c_X6_isBetween l G x 1 4) wM_X6_38 mw_X6_isBetween ⟨Nat.le_of_ble_eq_true rfl, Nat.le_of_ble_eq_true rfl⟩ rfl rfl hl.1 (Nat.le_of_ble_eq_true rfl) dX6_setShift_3 ⟨Nat.le_of_ble_eq_true rfl, Nat.le_of_ble_eq_true rfl⟩ (fun r M1 H locs hp hw => ?_)
  obtain ⟨hr1, hq⟩ := hp
  subst hr1
  rw [hq] at hw
  refine lv_if_ne (tgt := 11) hx hb dX6_setShift_6 (by decide) (fun c6 => ?_) (fun c6 => ?_)
  · refine lv_aload_n hx hb dX6_setShift_11 rfl (lv_at hl 0 rfl) ?_
    refine r_get cX inX6 hw hC.1.1 rfl 1 (by decide) wF_X6_19 rfl dX6_setShift_12 ?_
    refine lv_aload_n hx hb dX6_setShift_15 rfl (lv_at hl 0 rfl) ?_
    refine r_get cX inX6 hw hC.1.1 rfl 0 (by decide) wF_X6_10 rfl dX6_setShift_16 ?_
    refine r_Vv cX hw hC.1.2.1 rfl [.ref (Lst ad 0 0)] (c_X3_push l G hC.1) wM_X6_42 mw_X3_push ⟨Nat.le_of_ble_eq_true rfl, Nat.le_of_ble_eq_true rfl⟩ rfl rfl hl.1 (Nat.le_of_ble_eq_true rfl) dX6_setShift_19 ⟨Nat.le_of_ble_eq_true rfl, Nat.le_of_ble_eq_true rfl⟩ (fun M1 H locs hp hw => ?_)
    have hC := hC.trans hp
    have hI := ((hC.1.sts 0 (by decide)).st).re (psh_0 F nx)
    refine lv_aload_n hx hb dX6_setShift_22 rfl (lv_at hl 0 rfl) ?_
    refine r_get cX inX6 hw hC.1.1 rfl 0 (by decide) wF_X6_10 rfl dX6_setShift_23 ?_
    refine r_get cX inX4 hw hI.1.1 rfl 6 (by decide) wF_X6_83 rfl dX6_setShift_26 ?_
    refine lv_istore_n (lv' := [(2, .int ((F 0) 6)), (0, .ref (ad 0)), (1, .int x)]) hx hb dX6_setShift_29 rfl hl (by decide) rfl (fun ls hl => ?_)
    refine lv_aload_n hx hb dX6_setShift_30 rfl (lv_at hl 1 rfl) ?_
    refine r_get cX inX6 hw hC.1.1 rfl 0 (by decide) wF_X6_10 rfl dX6_setShift_31 ?_
    refine lv_iload_n hx hb dX6_setShift_34 rfl (lv_at hl 2 rfl) ?_
    refine r_put (fs' := stFs (Lst ad 0) (upd (F 0) 6 x)) cX inX4 tyX4 tyX4_ok nmX4 hw hI.1.1 rfl 6 (by decide) wF_X6_83 rfl rfl rfl rfl (Nat.le_of_ble_eq_true rfl) dX6_setShift_35 (fun H locs hw => ?_)
    have hI := hI.sc (f' := upd (F 0) 6 x) (fun k h1 _ => pk_un (by omega))
    have hC := hC.st 0 (by decide) hI
    have hI := ((hC.1.sts 0 (by decide)).st).re (uF_at _ _ _)
    refine lv_iload_n hx hb dX6_setShift_38 rfl (lv_at hl 0 rfl) ?_
    exact r_iret cX hr hlocks hw (by unfold s_setS; (try dsimp only); rw [if_pos (if01n c6)]; exact ⟨rfl, tr, hC⟩) dX6_setShift_39
  · refine lv_iconst (v := (-1)) hx hb dX6_setShift_9 (by decide) ?_
    exact r_iret cX hr hlocks hw (by unfold s_setS; (try dsimp only); rw [if_neg (fun h => if01e c6 h)]; exact ⟨rfl, tr, hC⟩) dX6_setShift_10

set_option maxHeartbeats 4000000 in
set_option maxRecDepth 100000 in
theorem c_X6_setGenerator (l : Launch) (G : gG) {M : HM} {ad : Nat → Nat} {F : Nat → Nat → Int32} {nx ct : Nat} {fl T : Nat → Int32} {len : Nat} {tr : Nat → Int32} (hC0 : IsCl G M ad F nx ct fl T len tr) (x : Int32) : Ci l yX6_setGenerator cX6_setGenerator 3 .int (rd 3 0 0) G [.ref (ad 0), .int x] M (fun r M' => r = (s_setGenerator x (F, nx, ct, fl, T, len)).1 ∧ CL G M M' ad (s_setGenerator x (F, nx, ct, fl, T, len)).2) := by
  refine Ci.of (by decide) (Nat.le_of_ble_eq_true rfl) ?_
  intro p e s m args below meth c ls cX hw hlocks hr hl
  have hx := cX.1
  have hb := cX.2.1
  have hl : lv_has ls 3 [(0, .ref (ad 0)), (1, .int x)] := hl
  have hC : Cl G M M ad F nx ct fl T len tr := ⟨hC0, OffC.rf M ad 359⟩
  have hI := (hC.1.sts 0 (by decide)).st
  refine lv_iload_n hx hb dX6_setGenerator_0 rfl (lv_at hl 1 rfl) ?_
  refine lv_if_ge (tgt := 6) hx hb dX6_setGenerator_1 (by decide) (fun c1 => ?_) (fun c1 => ?_)
  · refine lv_aload_n hx hb dX6_setGenerator_6 rfl (lv_at hl 0 rfl) ?_
    refine r_get cX inX6 hw hC.1.1 rfl 1 (by decide) wF_X6_19 rfl dX6_setGenerator_7 ?_
    refine lv_aload_n hx hb dX6_setGenerator_10 rfl (lv_at hl 0 rfl) ?_
    refine r_get cX inX6 hw hC.1.1 rfl 0 (by decide) wF_X6_10 rfl dX6_setGenerator_11 ?_
    refine r_Vv cX hw hC.1.2.1 rfl [.ref (Lst ad 0 0)] (c_X3_push l G hC.1) wM_X6_42 mw_X3_push ⟨Nat.le_of_ble_eq_true rfl, Nat.le_of_ble_eq_true rfl⟩ rfl rfl hl.1 (Nat.le_of_ble_eq_true rfl) dX6_setGenerator_14 ⟨Nat.le_of_ble_eq_true rfl, Nat.le_of_ble_eq_true rfl⟩ (fun M1 H locs hp hw => ?_)
    have hC := hC.trans hp
    have hI := ((hC.1.sts 0 (by decide)).st).re (psh_0 F nx)
    refine lv_aload_n hx hb dX6_setGenerator_17 rfl (lv_at hl 0 rfl) ?_
    refine r_get cX inX6 hw hC.1.1 rfl 0 (by decide) wF_X6_10 rfl dX6_setGenerator_18 ?_
    refine r_get cX inX4 hw hI.1.1 rfl 7 (by decide) wF_X6_86 rfl dX6_setGenerator_21 ?_
    refine lv_istore_n (lv' := [(2, .int ((F 0) 7)), (0, .ref (ad 0)), (1, .int x)]) hx hb dX6_setGenerator_24 rfl hl (by decide) rfl (fun ls hl => ?_)
    refine lv_aload_n hx hb dX6_setGenerator_25 rfl (lv_at hl 1 rfl) ?_
    refine r_get cX inX6 hw hC.1.1 rfl 0 (by decide) wF_X6_10 rfl dX6_setGenerator_26 ?_
    refine lv_iload_n hx hb dX6_setGenerator_29 rfl (lv_at hl 2 rfl) ?_
    refine r_put (fs' := stFs (Lst ad 0) (upd (F 0) 7 x)) cX inX4 tyX4 tyX4_ok nmX4 hw hI.1.1 rfl 7 (by decide) wF_X6_86 rfl rfl rfl rfl (Nat.le_of_ble_eq_true rfl) dX6_setGenerator_30 (fun H locs hw => ?_)
    have hI := hI.sc (f' := upd (F 0) 7 x) (fun k h1 _ => pk_un (by omega))
    have hC := hC.st 0 (by decide) hI
    have hI := ((hC.1.sts 0 (by decide)).st).re (uF_at _ _ _)
    refine lv_iload_n hx hb dX6_setGenerator_33 rfl (lv_at hl 0 rfl) ?_
    exact r_iret cX hr hlocks hw (by unfold s_setGenerator; (try dsimp only); rw [if_pos c1]; exact ⟨rfl, tr, hC⟩) dX6_setGenerator_34
  · refine lv_iconst (v := (-1)) hx hb dX6_setGenerator_4 (by decide) ?_
    exact r_iret cX hr hlocks hw (by unfold s_setGenerator; (try dsimp only); rw [if_neg c1]; exact ⟨rfl, tr, hC⟩) dX6_setGenerator_5

set_option maxHeartbeats 4000000 in
set_option maxRecDepth 100000 in
theorem c_X6_advance (l : Launch) (G : gG) {M : HM} {ad : Nat → Nat} {F : Nat → Nat → Int32} {nx ct : Nat} {fl T : Nat → Int32} {len : Nat} {tr : Nat → Int32} (hC0 : IsCl G M ad F nx ct fl T len tr) (x : Int32) {B : Nat} (hv : Inv B (F 0)) : Ci l yX6_advance cX6_advance 2 .int (rd 3 0 0) G [.ref (ad 0), .int x] M (fun r M' => r = (s_advance x (F, nx, ct, fl, T, len)).1 ∧ CL G M M' ad (s_advance x (F, nx, ct, fl, T, len)).2) := by
  refine Ci.of (by decide) (Nat.le_of_ble_eq_true rfl) ?_
  intro p e s m args below meth c ls cX hw hlocks hr hl
  have hx := cX.1
  have hb := cX.2.1
  have hl : lv_has ls 2 [(0, .ref (ad 0)), (1, .int x)] := hl
  have hC : Cl G M M ad F nx ct fl T len tr := ⟨hC0, OffC.rf M ad 359⟩
  have hI := (hC.1.sts 0 (by decide)).st
  refine lv_iload_n hx hb dX6_advance_0 rfl (lv_at hl 1 rfl) ?_
  refine lv_iconst (v := 1) hx hb dX6_advance_1 (by decide) ?_
  refine lv_sipush (v := 1000) hx hb dX6_advance_2 (by decide) ?_
  refine r_Si cX hw [.int x, .int 1, .int 1000] (c_X6_isBetween l G x 1 1000) wM_X6_38 mw_X6_isBetween ⟨Nat.le_of_ble_eq_true rfl, Nat.le_of_ble_eq_true rfl⟩ rfl rfl hl.1 (Nat.le_of_ble_eq_true rfl) dX6_advance_5 ⟨Nat.le_of_ble_eq_true rfl, Nat.le_of_ble_eq_true rfl⟩ (fun r M1 H locs hp hw => ?_)
  obtain ⟨hr1, hq⟩ := hp
  subst hr1
  rw [hq] at hw
  refine lv_if_ne (tgt := 13) hx hb dX6_advance_8 (by decide) (fun c8 => ?_) (fun c8 => ?_)
  · refine lv_aload_n hx hb dX6_advance_13 rfl (lv_at hl 0 rfl) ?_
    refine r_get cX inX6 hw hC.1.1 rfl 0 (by decide) wF_X6_10 rfl dX6_advance_14 ?_
    refine lv_iload_n hx hb dX6_advance_17 rfl (lv_at hl 1 rfl) ?_
    refine r_Vi cX hw hI.1.1 rfl [.int x] (c_X4_hasTimeFor l G hI.1 x) wM_X6_89 mw_X4_hasTimeFor ⟨Nat.le_of_ble_eq_true rfl, Nat.le_of_ble_eq_true rfl⟩ rfl rfl hl.1 (Nat.le_of_ble_eq_true rfl) dX6_advance_18 ⟨Nat.le_of_ble_eq_true rfl, Nat.le_of_ble_eq_true rfl⟩ (fun r M1 H locs hp hw => ?_)
    obtain ⟨hr1, hq⟩ := hp
    rw [hq] at hw
    clear hq
    rw [hr1]
    clear hr1
    refine lv_if_ne (tgt := 27) hx hb dX6_advance_21 (by decide) (fun c21 => ?_) (fun c21 => ?_)
    · refine lv_aload_n hx hb dX6_advance_27 rfl (lv_at hl 0 rfl) ?_
      refine r_get cX inX6 hw hC.1.1 rfl 1 (by decide) wF_X6_19 rfl dX6_advance_28 ?_
      refine lv_aload_n hx hb dX6_advance_31 rfl (lv_at hl 0 rfl) ?_
      refine r_get cX inX6 hw hC.1.1 rfl 0 (by decide) wF_X6_10 rfl dX6_advance_32 ?_
      refine r_Vv cX hw hC.1.2.1 rfl [.ref (Lst ad 0 0)] (c_X3_push l G hC.1) wM_X6_42 mw_X3_push ⟨Nat.le_of_ble_eq_true rfl, Nat.le_of_ble_eq_true rfl⟩ rfl rfl hl.1 (Nat.le_of_ble_eq_true rfl) dX6_advance_35 ⟨Nat.le_of_ble_eq_true rfl, Nat.le_of_ble_eq_true rfl⟩ (fun M1 H locs hp hw => ?_)
      have hC := hC.trans hp
      have hI := ((hC.1.sts 0 (by decide)).st).re (psh_0 F nx)
      refine lv_aload_n hx hb dX6_advance_38 rfl (lv_at hl 0 rfl) ?_
      refine r_get cX inX6 hw hC.1.1 rfl 0 (by decide) wF_X6_10 rfl dX6_advance_39 ?_
      refine lv_iload_n hx hb dX6_advance_42 rfl (lv_at hl 1 rfl) ?_
      obtain ⟨T0, hT0, hT1⟩ := hv.1
      obtain ⟨k, hk1, rfl, hxc, hTk⟩ := adv_ix hT0 hT1 (if01n c8) (if01n c21)
      refine r_Vv cX hw hI.1.1 rfl [.int (nI k)] (c_X4_letTimePass l G hI.1 hv hT1 hTk) wM_X6_92 mw_X4_letTimePass ⟨Nat.le_of_ble_eq_true rfl, Nat.le_of_ble_eq_true rfl⟩ rfl rfl hl.1 (Nat.le_of_ble_eq_true rfl) dX6_advance_43 ⟨Nat.le_of_ble_eq_true rfl, Nat.le_of_ble_eq_true rfl⟩ (fun M1 H locs hp hw => ?_)
      have hC := hC.st 0 (by decide) hp
      have hI := ((hC.1.sts 0 (by decide)).st).re (uF_at _ _ _)
      refine lv_aload_n hx hb dX6_advance_46 rfl (lv_at hl 0 rfl) ?_
      refine r_get cX inX6 hw hC.1.1 rfl 0 (by decide) wF_X6_10 rfl dX6_advance_47 ?_
      refine r_get cX inX4 hw hI.1.1 rfl 2 (by decide) wF_X6_96 rfl dX6_advance_50 ?_
      exact r_iret cX hr hlocks hw (by unfold s_advance; (try dsimp only); rw [if_pos (if01n c8), if_pos (if01n c21), hxc]; exact ⟨rfl, tr, hC⟩) dX6_advance_53
    · refine lv_bipush (v := (-2)) hx hb dX6_advance_24 (by decide) ?_
      exact r_iret cX hr hlocks hw (by unfold s_advance; (try dsimp only); rw [if_pos (if01n c8), if_neg (if01e c21)]; exact ⟨rfl, tr, hC⟩) dX6_advance_26
  · refine lv_iconst (v := (-1)) hx hb dX6_advance_11 (by decide) ?_
    exact r_iret cX hr hlocks hw (by unfold s_advance; (try dsimp only); rw [if_neg (if01e c8)]; exact ⟨rfl, tr, hC⟩) dX6_advance_12

set_option maxHeartbeats 4000000 in
set_option maxRecDepth 100000 in
theorem c_X6_send (l : Launch) (G : gG) {M : HM} {ad : Nat → Nat} {F : Nat → Nat → Int32} {nx ct : Nat} {fl T : Nat → Int32} {len : Nat} {tr : Nat → Int32} (hC0 : IsCl G M ad F nx ct fl T len tr) (x y : Int32) {B : Nat} (hv : Inv B (F 0)) (hB : B < 2 ^ 30) : Ci l yX6_send cX6_send 3 .int (rd 5 0 0) G [.ref (ad 0), .int x, .int y] M (fun r M' => r = (s_send x y (F, nx, ct, fl, T, len)).1 ∧ CL G M M' ad (s_send x y (F, nx, ct, fl, T, len)).2) := by
  refine Ci.of (by decide) (Nat.le_of_ble_eq_true rfl) ?_
  intro p e s m args below meth c ls cX hw hlocks hr hl
  have hx := cX.1
  have hb := cX.2.1
  have hl : lv_has ls 3 [(0, .ref (ad 0)), (1, .int x), (2, .int y)] := hl
  have hC : Cl G M M ad F nx ct fl T len tr := ⟨hC0, OffC.rf M ad 359⟩
  have hI := (hC.1.sts 0 (by decide)).st
  refine lv_iload_n hx hb dX6_send_0 rfl (lv_at hl 1 rfl) ?_
  refine r_Si cX hw [.int x] (c_X6_isFlow l G x) wM_X6_99 mw_X6_isFlow ⟨Nat.le_of_ble_eq_true rfl, Nat.le_of_ble_eq_true rfl⟩ rfl rfl hl.1 (Nat.le_of_ble_eq_true rfl) dX6_send_1 ⟨Nat.le_of_ble_eq_true rfl, Nat.le_of_ble_eq_true rfl⟩ (fun r M1 H locs hp hw => ?_)
  obtain ⟨hr1, hq⟩ := hp
  subst hr1
  rw [hq] at hw
  refine lv_if_eq (tgt := 14) hx hb dX6_send_4 (by decide) (fun c4 => ?_) (fun c4 => ?_)
  · refine lv_iconst (v := (-1)) hx hb dX6_send_14 (by decide) ?_
    exact r_iret cX hr hlocks hw (by unfold s_send; (try dsimp only); rw [if_neg (fun h => if01e c4 h.1)]; exact ⟨rfl, tr, hC⟩) dX6_send_15
  · refine lv_iload_n hx hb dX6_send_7 rfl (lv_at hl 2 rfl) ?_
    refine r_Si cX hw [.int y] (c_X6_isSize l G y) wM_X6_102 mw_X6_isSize ⟨Nat.le_of_ble_eq_true rfl, Nat.le_of_ble_eq_true rfl⟩ rfl rfl hl.1 (Nat.le_of_ble_eq_true rfl) dX6_send_8 ⟨Nat.le_of_ble_eq_true rfl, Nat.le_of_ble_eq_true rfl⟩ (fun r M1 H locs hp hw => ?_)
    obtain ⟨hr1, hq⟩ := hp
    subst hr1
    rw [hq] at hw
    refine lv_if_ne (tgt := 16) hx hb dX6_send_11 (by decide) (fun c11 => ?_) (fun c11 => ?_)
    · refine lv_aload_n hx hb dX6_send_16 rfl (lv_at hl 0 rfl) ?_
      refine r_get cX inX6 hw hC.1.1 rfl 1 (by decide) wF_X6_19 rfl dX6_send_17 ?_
      refine lv_aload_n hx hb dX6_send_20 rfl (lv_at hl 0 rfl) ?_
      refine r_get cX inX6 hw hC.1.1 rfl 0 (by decide) wF_X6_10 rfl dX6_send_21 ?_
      refine r_Vv cX hw hC.1.2.1 rfl [.ref (Lst ad 0 0)] (c_X3_push l G hC.1) wM_X6_42 mw_X3_push ⟨Nat.le_of_ble_eq_true rfl, Nat.le_of_ble_eq_true rfl⟩ rfl rfl hl.1 (Nat.le_of_ble_eq_true rfl) dX6_send_24 ⟨Nat.le_of_ble_eq_true rfl, Nat.le_of_ble_eq_true rfl⟩ (fun M1 H locs hp hw => ?_)
      have hC := hC.trans hp
      have hI := ((hC.1.sts 0 (by decide)).st).re (psh_0 F nx)
      refine lv_aload_n hx hb dX6_send_27 rfl (lv_at hl 0 rfl) ?_
      refine r_get cX inX6 hw hC.1.1 rfl 0 (by decide) wF_X6_10 rfl dX6_send_28 ?_
      refine lv_iload_n hx hb dX6_send_31 rfl (lv_at hl 1 rfl) ?_
      refine lv_iload_n hx hb dX6_send_32 rfl (lv_at hl 2 rfl) ?_
      obtain ⟨k, hk, rfl, hxc⟩ := lit_ix 15 (by decide) (if01n c4)
      refine r_Vi cX hw hI.1.1 rfl [.int (nI k), .int y] (c_X4_sendPacket l G hI.1 hv hB k hk y) wM_X6_105 mw_X4_sendPacket ⟨Nat.le_of_ble_eq_true rfl, Nat.le_of_ble_eq_true rfl⟩ rfl rfl hl.1 (Nat.le_of_ble_eq_true rfl) dX6_send_33 ⟨Nat.le_of_ble_eq_true rfl, Nat.le_of_ble_eq_true rfl⟩ (fun r M1 H locs hp hw => ?_)
      obtain ⟨rfl, hp⟩ := hp
      have hC := hC.st 0 (by decide) hp
      have hI := ((hC.1.sts 0 (by decide)).st).re (uF_at _ _ _)
      exact r_iret cX hr hlocks hw (by unfold s_send; (try dsimp only); rw [if_pos ⟨(if01n c4), (if01n c11)⟩]; rw [hxc]; exact ⟨rfl, tr, hC⟩) dX6_send_36
    · refine lv_iconst (v := (-1)) hx hb dX6_send_14 (by decide) ?_
      exact r_iret cX hr hlocks hw (by unfold s_send; (try dsimp only); rw [if_neg (fun h => if01e c11 h.2)]; exact ⟨rfl, tr, hC⟩) dX6_send_15

set_option maxHeartbeats 4000000 in
set_option maxRecDepth 100000 in
theorem c_X6_undo (l : Launch) (G : gG) {M : HM} {ad : Nat → Nat} {F : Nat → Nat → Int32} {nx ct : Nat} {fl T : Nat → Int32} {len : Nat} {tr : Nat → Int32} (hC0 : IsCl G M ad F nx ct fl T len tr) : Ci l yX6_undo cX6_undo 1 .int (rd 3 0 0) G [.ref (ad 0)] M (fun r M' => r = (s_undo (F, nx, ct, fl, T, len)).1 ∧ CL G M M' ad (s_undo (F, nx, ct, fl, T, len)).2) := by
  have hct := hC0.2.2.2.2.2.2.2.2.2.2.1
  refine Ci.of (by decide) (Nat.le_of_ble_eq_true rfl) ?_
  intro p e s m args below meth c ls cX hw hlocks hr hl
  have hx := cX.1
  have hb := cX.2.1
  have hl : lv_has ls 1 [(0, .ref (ad 0))] := hl
  have hC : Cl G M M ad F nx ct fl T len tr := ⟨hC0, OffC.rf M ad 359⟩
  have hI := (hC.1.sts 0 (by decide)).st
  refine lv_aload_n hx hb dX6_undo_0 rfl (lv_at hl 0 rfl) ?_
  refine r_get cX inX6 hw hC.1.1 rfl 1 (by decide) wF_X6_19 rfl dX6_undo_1 ?_
  refine r_get cX inX3 hw hC.1.2.1 rfl 2 (by decide) wF_X6_222 rfl dX6_undo_4 ?_
  refine lv_if_ne (tgt := 13) hx hb dX6_undo_7 (by decide) (fun c7 => ?_) (fun c7 => ?_)
  · refine lv_aload_n hx hb dX6_undo_13 rfl (lv_at hl 0 rfl) ?_
    refine r_get cX inX6 hw hC.1.1 rfl 1 (by decide) wF_X6_19 rfl dX6_undo_14 ?_
    refine lv_aload_n hx hb dX6_undo_17 rfl (lv_at hl 0 rfl) ?_
    refine r_get cX inX6 hw hC.1.1 rfl 0 (by decide) wF_X6_10 rfl dX6_undo_18 ?_
    refine r_Vv cX hw hC.1.2.1 rfl [.ref (Lst ad 0 0)] (c_X3_popInto l G hC.1 (Nat.pos_of_ne_zero (fun q => c7 (by rw [q]; rfl)))) wM_X6_225 mw_X3_popInto ⟨Nat.le_of_ble_eq_true rfl, Nat.le_of_ble_eq_true rfl⟩ rfl rfl hl.1 (Nat.le_of_ble_eq_true rfl) dX6_undo_21 ⟨Nat.le_of_ble_eq_true rfl, Nat.le_of_ble_eq_true rfl⟩ (fun M1 H locs hp hw => ?_)
    have hC := hC.trans hp
    refine lv_aload_n hx hb dX6_undo_24 rfl (lv_at hl 0 rfl) ?_
    refine r_get cX inX6 hw hC.1.1 rfl 1 (by decide) wF_X6_19 rfl dX6_undo_25 ?_
    refine r_get cX inX3 hw hC.1.2.1 rfl 2 (by decide) wF_X6_222 rfl dX6_undo_28 ?_
    exact r_iret cX hr hlocks hw (by unfold s_undo; (try dsimp only); rw [if_neg (fun q => c7 (by rw [q]; rfl))]; exact ⟨rfl, tr, hC⟩) dX6_undo_31
  · refine lv_bipush (v := (-2)) hx hb dX6_undo_10 (by decide) ?_
    exact r_iret cX hr hlocks hw (by have h0 : ct = 0 := (nI_eq (by omega) (by decide)).mp c7; unfold s_undo; (try dsimp only); rw [if_pos h0]; exact ⟨rfl, tr, hC⟩) dX6_undo_12

set_option maxHeartbeats 4000000 in
set_option maxRecDepth 100000 in
theorem c_X6_save (l : Launch) (G : gG) {M : HM} {ad : Nat → Nat} {F : Nat → Nat → Int32} {nx ct : Nat} {fl T : Nat → Int32} {len : Nat} {tr : Nat → Int32} (hC0 : IsCl G M ad F nx ct fl T len tr) (x : Int32) : Ci l yX6_save cX6_save 2 .int (rd 2 0 0) G [.ref (ad 0), .int x] M (fun r M' => r = (s_save x (F, nx, ct, fl, T, len)).1 ∧ CL G M M' ad (s_save x (F, nx, ct, fl, T, len)).2) := by
  refine Ci.of (by decide) (Nat.le_of_ble_eq_true rfl) ?_
  intro p e s m args below meth c ls cX hw hlocks hr hl
  have hx := cX.1
  have hb := cX.2.1
  have hl : lv_has ls 2 [(0, .ref (ad 0)), (1, .int x)] := hl
  have hC : Cl G M M ad F nx ct fl T len tr := ⟨hC0, OffC.rf M ad 359⟩
  have hI := (hC.1.sts 0 (by decide)).st
  refine lv_iload_n hx hb dX6_save_0 rfl (lv_at hl 1 rfl) ?_
  refine lv_iconst (v := 0) hx hb dX6_save_1 (by decide) ?_
  refine lv_iconst (v := 1) hx hb dX6_save_2 (by decide) ?_
  refine r_Si cX hw [.int x, .int 0, .int 1] (c_X6_isBetween l G x 0 1) wM_X6_38 mw_X6_isBetween ⟨Nat.le_of_ble_eq_true rfl, Nat.le_of_ble_eq_true rfl⟩ rfl rfl hl.1 (Nat.le_of_ble_eq_true rfl) dX6_save_3 ⟨Nat.le_of_ble_eq_true rfl, Nat.le_of_ble_eq_true rfl⟩ (fun r M1 H locs hp hw => ?_)
  obtain ⟨hr1, hq⟩ := hp
  subst hr1
  rw [hq] at hw
  refine lv_if_ne (tgt := 11) hx hb dX6_save_6 (by decide) (fun c6 => ?_) (fun c6 => ?_)
  · refine lv_aload_n hx hb dX6_save_11 rfl (lv_at hl 0 rfl) ?_
    refine r_get cX inX6 hw hC.1.1 rfl 2 (by decide) wF_X6_23 rfl dX6_save_12 ?_
    refine lv_iload_n hx hb dX6_save_15 rfl (lv_at hl 1 rfl) ?_
    obtain ⟨g_44, hg_44, hg_44_⟩ := hC.1.2.2.2.1
    obtain ⟨k, hk, hxk, hxc⟩ := lit_ix 1 (by decide) (if01n c6)
    refine r_aald cX hw 5 rfl hg_44 k hxk hk (by decide) (hg_44_ k hk) dX6_save_16 ?_
    refine lv_aload_n hx hb dX6_save_17 rfl (lv_at hl 0 rfl) ?_
    refine r_get cX inX6 hw hC.1.1 rfl 0 (by decide) wF_X6_10 rfl dX6_save_18 ?_
    refine r_Vv cX hw (hC.1.sts (k + 9) (by omega)).1 rfl [.ref (Lst ad 0 0)] (c_X4_copyFrom l G (hC.1.sts (k + 9) (by omega)) hI.1 (hC.1.apart (by omega) (by omega) (by omega))) wM_X6_228 mw_X4_copyFrom ⟨Nat.le_of_ble_eq_true rfl, Nat.le_of_ble_eq_true rfl⟩ rfl rfl hl.1 (Nat.le_of_ble_eq_true rfl) dX6_save_21 ⟨Nat.le_of_ble_eq_true rfl, Nat.le_of_ble_eq_true rfl⟩ (fun M1 H locs hp hw => ?_)
    have hC := hC.st (k + 9) (by omega) hp
    refine lv_aload_n hx hb dX6_save_24 rfl (lv_at hl 0 rfl) ?_
    refine r_get cX inX6 hw hC.1.1 rfl 3 (by decide) wF_X6_27 rfl dX6_save_25 ?_
    refine lv_iload_n hx hb dX6_save_28 rfl (lv_at hl 1 rfl) ?_
    refine lv_iconst (v := 1) hx hb dX6_save_29 (by decide) ?_
    refine r_zast cX hw hC.1.2.2.2.2.1 k hxk hk (by decide) rfl dX6_save_30 (fun H locs hw => ?_)
    have hC := hC.flg (fl' := upd fl k 1) (by intro i hi; unfold upd; split; exact Or.inr rfl; exact hC0.2.2.2.2.2.2.2.2.2.2.2.2.1 i hi)
    have hI := (hC.1.sts 0 (by decide)).st
    refine lv_aload_n hx hb dX6_save_31 rfl (lv_at hl 0 rfl) ?_
    refine r_get cX inX6 hw hC.1.1 rfl 0 (by decide) wF_X6_10 rfl dX6_save_32 ?_
    refine r_get cX inX4 hw hI.1.1 rfl 2 (by decide) wF_X6_96 rfl dX6_save_35 ?_
    exact r_iret cX hr hlocks hw (by unfold s_save; (try dsimp only); rw [if_pos (if01n c6), hxc]; exact ⟨congrFun (uF_ne F (F 0) (by omega)) 0, tr, hC⟩) dX6_save_38
  · refine lv_iconst (v := (-1)) hx hb dX6_save_9 (by decide) ?_
    exact r_iret cX hr hlocks hw (by unfold s_save; (try dsimp only); rw [if_neg (if01e c6)]; exact ⟨rfl, tr, hC⟩) dX6_save_10

set_option maxHeartbeats 4000000 in
set_option maxRecDepth 100000 in
theorem c_X6_restore (l : Launch) (G : gG) {M : HM} {ad : Nat → Nat} {F : Nat → Nat → Int32} {nx ct : Nat} {fl T : Nat → Int32} {len : Nat} {tr : Nat → Int32} (hC0 : IsCl G M ad F nx ct fl T len tr) (x : Int32) : Ci l yX6_restore cX6_restore 2 .int (rd 2 0 0) G [.ref (ad 0), .int x] M (fun r M' => r = (s_restore x (F, nx, ct, fl, T, len)).1 ∧ CL G M M' ad (s_restore x (F, nx, ct, fl, T, len)).2) := by
  refine Ci.of (by decide) (Nat.le_of_ble_eq_true rfl) ?_
  intro p e s m args below meth c ls cX hw hlocks hr hl
  have hx := cX.1
  have hb := cX.2.1
  have hl : lv_has ls 2 [(0, .ref (ad 0)), (1, .int x)] := hl
  have hC : Cl G M M ad F nx ct fl T len tr := ⟨hC0, OffC.rf M ad 359⟩
  have hI := (hC.1.sts 0 (by decide)).st
  refine lv_iload_n hx hb dX6_restore_0 rfl (lv_at hl 1 rfl) ?_
  refine lv_iconst (v := 0) hx hb dX6_restore_1 (by decide) ?_
  refine lv_iconst (v := 1) hx hb dX6_restore_2 (by decide) ?_
  refine r_Si cX hw [.int x, .int 0, .int 1] (c_X6_isBetween l G x 0 1) wM_X6_38 mw_X6_isBetween ⟨Nat.le_of_ble_eq_true rfl, Nat.le_of_ble_eq_true rfl⟩ rfl rfl hl.1 (Nat.le_of_ble_eq_true rfl) dX6_restore_3 ⟨Nat.le_of_ble_eq_true rfl, Nat.le_of_ble_eq_true rfl⟩ (fun r M1 H locs hp hw => ?_)
  obtain ⟨hr1, hq⟩ := hp
  subst hr1
  rw [hq] at hw
  refine lv_if_ne (tgt := 11) hx hb dX6_restore_6 (by decide) (fun c6 => ?_) (fun c6 => ?_)
  · refine lv_aload_n hx hb dX6_restore_11 rfl (lv_at hl 0 rfl) ?_
    refine r_get cX inX6 hw hC.1.1 rfl 3 (by decide) wF_X6_27 rfl dX6_restore_12 ?_
    refine lv_iload_n hx hb dX6_restore_15 rfl (lv_at hl 1 rfl) ?_
    obtain ⟨k, hk, hxk, hxc⟩ := lit_ix 1 (by decide) (if01n c6)
    refine r_zald (v := fl k) cX hw hC.1.2.2.2.2.1 k hxk hk (by decide) rfl dX6_restore_16 ?_
    refine lv_if_ne (tgt := 23) hx hb dX6_restore_17 (by decide) (fun c17 => ?_) (fun c17 => ?_)
    · refine lv_aload_n hx hb dX6_restore_23 rfl (lv_at hl 0 rfl) ?_
      refine r_get cX inX6 hw hC.1.1 rfl 0 (by decide) wF_X6_10 rfl dX6_restore_24 ?_
      refine lv_aload_n hx hb dX6_restore_27 rfl (lv_at hl 0 rfl) ?_
      refine r_get cX inX6 hw hC.1.1 rfl 2 (by decide) wF_X6_23 rfl dX6_restore_28 ?_
      refine lv_iload_n hx hb dX6_restore_31 rfl (lv_at hl 1 rfl) ?_
      obtain ⟨g_45, hg_45, hg_45_⟩ := hC.1.2.2.2.1
      refine r_aald cX hw 5 rfl hg_45 k hxk hk (by decide) (hg_45_ k hk) dX6_restore_32 ?_
      refine r_Vv cX hw hI.1.1 rfl [.ref (Lst ad (k + 9) 0)] (c_X4_copyFrom l G (hC.1.sts 0 (by decide)) (hC.1.sts (k + 9) (by omega)) (hC.1.apart (by omega) (by omega) (by omega))) wM_X6_228 mw_X4_copyFrom ⟨Nat.le_of_ble_eq_true rfl, Nat.le_of_ble_eq_true rfl⟩ rfl rfl hl.1 (Nat.le_of_ble_eq_true rfl) dX6_restore_33 ⟨Nat.le_of_ble_eq_true rfl, Nat.le_of_ble_eq_true rfl⟩ (fun M1 H locs hp hw => ?_)
      have hC := hC.st 0 (by decide) hp
      refine lv_aload_n hx hb dX6_restore_36 rfl (lv_at hl 0 rfl) ?_
      refine r_get cX inX6 hw hC.1.1 rfl 1 (by decide) wF_X6_19 rfl dX6_restore_37 ?_
      refine r_Vv cX hw hC.1.2.1 rfl [] (c_X3_discardAll l G hC.1) wM_X6_231 mw_X3_discardAll ⟨Nat.le_of_ble_eq_true rfl, Nat.le_of_ble_eq_true rfl⟩ rfl rfl hl.1 (Nat.le_of_ble_eq_true rfl) dX6_restore_40 ⟨Nat.le_of_ble_eq_true rfl, Nat.le_of_ble_eq_true rfl⟩ (fun M1 H locs hp hw => ?_)
      have hC := hC.trans hp
      have hI := (hC.1.sts 0 (by decide)).st
      refine lv_aload_n hx hb dX6_restore_43 rfl (lv_at hl 0 rfl) ?_
      refine r_get cX inX6 hw hC.1.1 rfl 0 (by decide) wF_X6_10 rfl dX6_restore_44 ?_
      refine r_get cX inX4 hw hI.1.1 rfl 2 (by decide) wF_X6_96 rfl dX6_restore_47 ?_
      exact r_iret cX hr hlocks hw (by unfold s_restore; (try dsimp only); rw [if_pos (if01n c6), hxc, if_neg c17]; exact ⟨rfl, tr, hC⟩) dX6_restore_50
    · refine lv_bipush (v := (-2)) hx hb dX6_restore_20 (by decide) ?_
      exact r_iret cX hr hlocks hw (by unfold s_restore; (try dsimp only); rw [if_pos (if01n c6), hxc, if_pos c17]; exact ⟨rfl, tr, hC⟩) dX6_restore_22
  · refine lv_iconst (v := (-1)) hx hb dX6_restore_9 (by decide) ?_
    exact r_iret cX hr hlocks hw (by unfold s_restore; (try dsimp only); rw [if_neg (if01e c6)]; exact ⟨rfl, tr, hC⟩) dX6_restore_10

set_option maxHeartbeats 4000000 in
set_option maxRecDepth 100000 in
theorem c_X6_appendCharacter (l : Launch) (G : gG) {M : HM} {ad : Nat → Nat} {F : Nat → Nat → Int32} {nx ct : Nat} {fl T : Nat → Int32} {len : Nat} {tr : Nat → Int32} (hC0 : IsCl G M ad F nx ct fl T len tr) (x : Int32) : Ci l yX6_appendCharacter cX6_appendCharacter 2 .int (rd 1 0 0) G [.ref (ad 0), .int x] M (fun r M' => r = (s_append x (F, nx, ct, fl, T, len)).1 ∧ CL G M M' ad (s_append x (F, nx, ct, fl, T, len)).2) := by
  have hlen := hC0.2.2.2.2.2.2.2.2.2.2.2.1
  refine Ci.of (by decide) (Nat.le_of_ble_eq_true rfl) ?_
  intro p e s m args below meth c ls cX hw hlocks hr hl
  have hx := cX.1
  have hb := cX.2.1
  have hl : lv_has ls 2 [(0, .ref (ad 0)), (1, .int x)] := hl
  have hC : Cl G M M ad F nx ct fl T len tr := ⟨hC0, OffC.rf M ad 359⟩
  have hI := (hC.1.sts 0 (by decide)).st
  refine lv_iload_n hx hb dX6_appendCharacter_0 rfl (lv_at hl 1 rfl) ?_
  refine lv_iconst (v := 0) hx hb dX6_appendCharacter_1 (by decide) ?_
  refine lv_sipush (v := 255) hx hb dX6_appendCharacter_2 (by decide) ?_
  refine r_Si cX hw [.int x, .int 0, .int 255] (c_X6_isBetween l G x 0 255) wM_X6_38 mw_X6_isBetween ⟨Nat.le_of_ble_eq_true rfl, Nat.le_of_ble_eq_true rfl⟩ rfl rfl hl.1 (Nat.le_of_ble_eq_true rfl) dX6_appendCharacter_5 ⟨Nat.le_of_ble_eq_true rfl, Nat.le_of_ble_eq_true rfl⟩ (fun r M1 H locs hp hw => ?_)
  obtain ⟨hr1, hq⟩ := hp
  subst hr1
  rw [hq] at hw
  refine lv_if_ne (tgt := 13) hx hb dX6_appendCharacter_8 (by decide) (fun c8 => ?_) (fun c8 => ?_)
  · refine lv_aload_n hx hb dX6_appendCharacter_13 rfl (lv_at hl 0 rfl) ?_
    refine r_get cX inX6 hw hC.1.1 rfl 4 (by decide) wF_X6_34 rfl dX6_appendCharacter_14 ?_
    refine r_Vi cX hw hC.1.2.2.2.2.2.1 rfl [] (c_X5_isFull l G hC.1.2.2.2.2.2.1 hC.1.2.2.2.2.2.2.1) wM_X6_198 mw_X5_isFull ⟨Nat.le_of_ble_eq_true rfl, Nat.le_of_ble_eq_true rfl⟩ rfl rfl hl.1 (Nat.le_of_ble_eq_true rfl) dX6_appendCharacter_17 ⟨Nat.le_of_ble_eq_true rfl, Nat.le_of_ble_eq_true rfl⟩ (fun r M1 H locs hp hw => ?_)
    obtain ⟨hr1, hq⟩ := hp
    subst hr1
    rw [hq] at hw
    refine lv_if_eq (tgt := 26) hx hb dX6_appendCharacter_20 (by decide) (fun c20 => ?_) (fun c20 => ?_)
    · have hlt : len < 120 := ix_lt (b := 120) (by omega) (if01e c20)
      refine lv_aload_n hx hb dX6_appendCharacter_26 rfl (lv_at hl 0 rfl) ?_
      refine r_get cX inX6 hw hC.1.1 rfl 4 (by decide) wF_X6_34 rfl dX6_appendCharacter_27 ?_
      refine lv_iload_n hx hb dX6_appendCharacter_30 rfl (lv_at hl 1 rfl) ?_
      refine r_Vv cX hw hC.1.2.2.2.2.2.1 rfl [.int x] (c_X5_append l G hC.1.2.2.2.2.2.1 hC.1.2.2.2.2.2.2.1 x hlt) wM_X6_201 mw_X5_append ⟨Nat.le_of_ble_eq_true rfl, Nat.le_of_ble_eq_true rfl⟩ rfl rfl hl.1 (Nat.le_of_ble_eq_true rfl) dX6_appendCharacter_31 ⟨Nat.le_of_ble_eq_true rfl, Nat.le_of_ble_eq_true rfl⟩ (fun M1 H locs hp hw => ?_)
      subst hp
      have hC := hC.cod (T' := upd T len x)
      have hC := hC.trc (len' := len + 1) (x0 := tr 0) (x1 := tr 1) (x2 := tr 2) (x3 := tr 3) (by omega) hC0.2.2.2.2.2.2.2.2.2.2.2.2.2
      refine lv_aload_n hx hb dX6_appendCharacter_34 rfl (lv_at hl 0 rfl) ?_
      refine r_get cX inX6 hw hC.1.1 rfl 4 (by decide) wF_X6_34 rfl dX6_appendCharacter_35 ?_
      refine r_get cX inX5 hw hC.1.2.2.2.2.2.1 rfl 1 (by decide) wF_X6_204 rfl dX6_appendCharacter_38 ?_
      exact r_iret cX hr hlocks hw (by unfold s_append; (try dsimp only); rw [if_pos (if01n c8), if_neg (by omega)]; exact ⟨rfl, _, hC⟩) dX6_appendCharacter_41
    · refine lv_bipush (v := (-3)) hx hb dX6_appendCharacter_23 (by decide) ?_
      exact r_iret cX hr hlocks hw (by have h9 : len = 120 := Nat.le_antisymm hlen (ix_ge (b := 120) (by omega) (by decide) (if01n c20)); unfold s_append; (try dsimp only); rw [if_pos (if01n c8), if_pos h9]; exact ⟨rfl, tr, hC⟩) dX6_appendCharacter_25
  · refine lv_iconst (v := (-1)) hx hb dX6_appendCharacter_11 (by decide) ?_
    exact r_iret cX hr hlocks hw (by unfold s_append; (try dsimp only); rw [if_neg (if01e c8)]; exact ⟨rfl, tr, hC⟩) dX6_appendCharacter_12

set_option maxHeartbeats 4000000 in
set_option maxRecDepth 100000 in
theorem c_X6_clearText (l : Launch) (G : gG) {M : HM} {ad : Nat → Nat} {F : Nat → Nat → Int32} {nx ct : Nat} {fl T : Nat → Int32} {len : Nat} {tr : Nat → Int32} (hC0 : IsCl G M ad F nx ct fl T len tr) : Ci l yX6_clearText cX6_clearText 2 .int (rd 1 0 0) G [.ref (ad 0)] M (fun r M' => r = (s_clearText (F, nx, ct, fl, T, len)).1 ∧ CL G M M' ad (s_clearText (F, nx, ct, fl, T, len)).2) := by
  refine Ci.of (by decide) (Nat.le_of_ble_eq_true rfl) ?_
  intro p e s m args below meth c ls cX hw hlocks hr hl
  have hx := cX.1
  have hb := cX.2.1
  have hl : lv_has ls 2 [(0, .ref (ad 0))] := hl
  have hC : Cl G M M ad F nx ct fl T len tr := ⟨hC0, OffC.rf M ad 359⟩
  have hI := (hC.1.sts 0 (by decide)).st
  refine lv_aload_n hx hb dX6_clearText_0 rfl (lv_at hl 0 rfl) ?_
  refine r_get cX inX6 hw hC.1.1 rfl 4 (by decide) wF_X6_34 rfl dX6_clearText_1 ?_
  refine r_get cX inX5 hw hC.1.2.2.2.2.2.1 rfl 1 (by decide) wF_X6_204 rfl dX6_clearText_4 ?_
  refine lv_istore_n (lv' := [(1, .int (nI len)), (0, .ref (ad 0))]) hx hb dX6_clearText_7 rfl hl (by decide) rfl (fun ls hl => ?_)
  refine lv_aload_n hx hb dX6_clearText_8 rfl (lv_at hl 1 rfl) ?_
  refine r_get cX inX6 hw hC.1.1 rfl 4 (by decide) wF_X6_34 rfl dX6_clearText_9 ?_
  refine r_Vv cX hw hC.1.2.2.2.2.2.1 rfl [] (c_X5_clear l G hC.1.2.2.2.2.2.1 hC.1.2.2.2.2.2.2.1) wM_X6_207 mw_X5_clear ⟨Nat.le_of_ble_eq_true rfl, Nat.le_of_ble_eq_true rfl⟩ rfl rfl hl.1 (Nat.le_of_ble_eq_true rfl) dX6_clearText_12 ⟨Nat.le_of_ble_eq_true rfl, Nat.le_of_ble_eq_true rfl⟩ (fun M1 H locs hp hw => ?_)
  subst hp
  have hC := hC.trc (len' := 0) (x0 := tr 0) (x1 := tr 1) (x2 := tr 2) (x3 := tr 3) (by omega) hC0.2.2.2.2.2.2.2.2.2.2.2.2.2
  refine lv_iload_n hx hb dX6_clearText_15 rfl (lv_at hl 0 rfl) ?_
  exact r_iret cX hr hlocks hw (by unfold s_clearText; (try dsimp only); exact ⟨rfl, _, hC⟩) dX6_clearText_16
