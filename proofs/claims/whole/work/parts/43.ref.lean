theorem wnp {x t : Int32} {T0 : Nat} (hx : 1 ≤ x ∧ x ≤ 1000) (h0 : T0 ≤ 1000000) (ht : t = nI T0) : t + x ≤ 1000000 ↔ x ≤ tmx - t := by
  have hx0 : ¬ x < 0 := fun q => absurd (Int32.lt_of_le_of_lt hx.1 q) (by decide)
  obtain ⟨j, h3, h4⟩ := nI_of hx0
  have h5 := hx.2
  rw [h4, show (1000 : Int32) = nI 1000 from rfl, nI_leI h3 (by decide)] at h5
  rw [ht, h4, nI_add, show tmx = nI 1000000 from rfl, show (1000000 : Int32) = nI 1000000 from rfl, pk_sub h0, nI_leI (by omega) (by decide), nI_leI h3 (by omega)]
  omega
set_option maxHeartbeats 4000000 in
set_option maxRecDepth 100000 in
theorem c_X7_age (l : Launch) (G : gG) {M : HM} {b : Nat → Nat} {f sv sl fl T iF iN : Nat → Int32} {ct len at_ it : Int32} (hR0 : IsRf G M b f sv sl fl T iF iN ct len at_ it) {B : Nat} (hv : Inv B f) : Cv l yX7_age cX7_age 2 (rd 0 0 0) G [.ref (b 0)] M (fun M' => Rf G M M' b (agN f (nE f)) sv sl fl T iF iN ct len at_ it) := by
  obtain ⟨e1, e2, e3⟩ := hv.E
  refine Cv.of (by decide) (Nat.le_of_ble_eq_true rfl) ?_
  intro p e s m args below meth c ls cX hw hlocks hr hnm hl
  have hx := cX.1
  have hb := cX.2.1
  have hl : lv_has ls 2 [(0, .ref (b 0))] := hl
  have hR := hR0.rf
  refine lv_iconst (v := 0) hx hb dX7_age_0 (by decide) ?_
  refine lv_istore_n (lv' := [(1, .int 0), (0, .ref (b 0))]) hx hb dX7_age_1 rfl hl (by decide) rfl (fun ls hl => ?_)
  have lp2 : ∀ (nn i : Nat), i ≤ nE f → nE f < i + nn → ∀ (M1 : HM) (H : Heap) (locs : List Loc) (ls : Array Slot), Wd G (dm M s.heap.size) s.heap M1 H locs → Rf G M M1 b (agN f i) sv sl fl T iF iN ct len at_ it → lv_has ls 2 [(1, .int (nI i)), (0, .ref (b 0))] → W p l e (rd 0 0 0) s m args below meth c H locs 0 0 (MQ below (QV G M s.heap.size (fun M' => Rf G M M' b (agN f (nE f)) sv sl fl T iF iN ct len at_ it)) args s 0 0 (dm M s.heap.size)) (F0 m 2 ls []) := by
    intro nn
    induction nn with
    | zero =>
      intro i h1 h2
      exact absurd h2 (by omega)
    | succ nn ih =>
      intro i hi hin M1 H locs ls hw hR hl
      refine lv_iload_n hx hb dX7_age_2 rfl (lv_at hl 0 rfl) ?_
      refine lv_aload_n hx hb dX7_age_3 rfl (lv_at hl 1 rfl) ?_
      refine r_get cX inX7 hw hR.1.1 rfl 0 (by decide) wF_X7_7 rfl dX7_age_4 ?_
      refine lv_iconst (v := 2) hx hb dX7_age_7 (by decide) ?_
      refine r_iald (v := (agN f i) 2) cX hw hR.1.2.1 2 rfl (by decide) (by decide) rfl dX7_age_8 ?_
      refine lv_icmp_ge (tgt := 61) hx hb dX7_age_9 (by decide) (fun c9 => ?_) (fun c9 => ?_)
      · obtain rfl : i = nE f := Nat.le_antisymm hi (ix_ge (b := nE f) (by omega) (by omega) (by rw [← ((agN_o f i 2 (by omega)).trans e3)]; exact c9))
        exact r_vret cX hr hlocks hw hR dX7_age_61
      · have hlt : i < nE f := ix_lt (b := nE f) (by omega) (by rw [← ((agN_o f i 2 (by omega)).trans e3)]; exact c9)
        refine lv_aload_n hx hb dX7_age_12 rfl (lv_at hl 1 rfl) ?_
        refine r_get cX inX7 hw hR.1.1 rfl 0 (by decide) wF_X7_7 rfl dX7_age_13 ?_
        refine lv_bipush (v := 41) hx hb dX7_age_16 (by decide) ?_
        refine lv_iload_n hx hb dX7_age_18 rfl (lv_at hl 0 rfl) ?_
        refine lv_iadd hx hb dX7_age_19 ?_
        refine r_iald (v := (agN f i) (41 + i)) cX hw hR.1.2.1 (41 + i) (nI_add 41 i) (by omega) (by decide) rfl dX7_age_20 ?_
        refine lv_iconst (v := 1) hx hb dX7_age_21 (by decide) ?_
        refine lv_icmp_ne (tgt := 55) hx hb dX7_age_22 (by decide) (fun c22 => ?_) (fun c22 => ?_)
        · have hR := hR.re (g := agN f (i + 1)) (by show _ = (if _ then _ else _); rw [if_neg c22])
          refine lv_iinc (v := (nI (i + 1))) (lv' := [(1, .int (nI (i + 1))), (0, .ref (b 0))]) hx hb dX7_age_55 hl (k := 0) rfl (nI_1 i) (by decide) rfl (fun ls hl => ?_)
          refine lv_goto (tgt := 2) hx hb dX7_age_58 (by decide) ?_
          exact ih (i + 1) (by omega) (by omega) _ _ _ _ hw hR (lv_sub hl [0, 1] rfl)
        · refine lv_aload_n hx hb dX7_age_25 rfl (lv_at hl 1 rfl) ?_
          refine r_get cX inX7 hw hR.1.1 rfl 0 (by decide) wF_X7_7 rfl dX7_age_26 ?_
          refine lv_bipush (v := 41) hx hb dX7_age_29 (by decide) ?_
          refine lv_iload_n hx hb dX7_age_31 rfl (lv_at hl 0 rfl) ?_
          refine lv_iadd hx hb dX7_age_32 ?_
          refine lv_iconst (v := 1) hx hb dX7_age_33 (by decide) ?_
          refine lv_aload_n hx hb dX7_age_34 rfl (lv_at hl 1 rfl) ?_
          refine r_get cX inX7 hw hR.1.1 rfl 0 (by decide) wF_X7_7 rfl dX7_age_35 ?_
          refine lv_bipush (v := 65) hx hb dX7_age_38 (by decide) ?_
          refine lv_iload_n hx hb dX7_age_40 rfl (lv_at hl 0 rfl) ?_
          refine lv_iadd hx hb dX7_age_41 ?_
          refine r_iald (v := (agN f i) (65 + i)) cX hw hR.1.2.1 (65 + i) (nI_add 65 i) (by omega) (by decide) rfl dX7_age_42 ?_
          refine lv_isub hx hb dX7_age_43 ?_
          refine r_iast cX hw hR.1.2.1 (41 + i) (nI_add 41 i) (by omega) (by decide) dX7_age_44 (fun H locs hw => ?_)
          have hR := hR.a1 (x := upd (agN f i) (41 + i) (1 - ((agN f i) (65 + i))))
          refine lv_aload_n hx hb dX7_age_45 rfl (lv_at hl 1 rfl) ?_
          refine r_get cX inX7 hw hR.1.1 rfl 0 (by decide) wF_X7_7 rfl dX7_age_46 ?_
          refine lv_bipush (v := 65) hx hb dX7_age_49 (by decide) ?_
          refine lv_iload_n hx hb dX7_age_51 rfl (lv_at hl 0 rfl) ?_
          refine lv_iadd hx hb dX7_age_52 ?_
          refine lv_iconst (v := 1) hx hb dX7_age_53 (by decide) ?_
          refine r_iast cX hw hR.1.2.1 (65 + i) (nI_add 65 i) (by omega) (by decide) dX7_age_54 (fun H locs hw => ?_)
          have hR := hR.a1 (x := upd (upd (agN f i) (41 + i) (1 - ((agN f i) (65 + i)))) (65 + i) 1)
          have hR := hR.re (g := agN f (i + 1)) (by show _ = (if _ then _ else _); rw [if_pos c22])
          refine lv_iinc (v := (nI (i + 1))) (lv' := [(1, .int (nI (i + 1))), (0, .ref (b 0))]) hx hb dX7_age_55 hl (k := 0) rfl (nI_1 i) (by decide) rfl (fun ls hl => ?_)
          refine lv_goto (tgt := 2) hx hb dX7_age_58 (by decide) ?_
          exact ih (i + 1) (by omega) (by omega) _ _ _ _ hw hR (lv_sub hl [0, 1] rfl)
  exact lp2 (nE f + 1) 0 (by omega) (by omega) _ _ _ _ hw hR (lv_sub hl [0, 1] rfl)

set_option maxHeartbeats 4000000 in
set_option maxRecDepth 100000 in
theorem c_X7_tick (l : Launch) (G : gG) {M : HM} {b : Nat → Nat} {f sv sl fl T iF iN : Nat → Int32} {ct len at_ it : Int32} (hR0 : IsRf G M b f sv sl fl T iF iN ct len at_ it) {B : Nat} (hv : Inv B f) {T0 : Nat} (hT : f 0 = nI T0) (hT0 : T0 + 1 ≤ 1000000) : Cv l yX7_tick cX7_tick 2 (rd 1 0 0) G [.ref (b 0)] M (fun M' => Rf G M M' b (tiF f) sv sl fl T iF iN ct len at_ it) := by
  obtain ⟨hv1, hT1⟩ := hv.t1 hT hT0
  obtain ⟨e1, e2, e3⟩ := hv1.P
  refine Cv.of (by decide) (Nat.le_of_ble_eq_true rfl) ?_
  intro p e s m args below meth c ls cX hw hlocks hr hnm hl
  have hx := cX.1
  have hb := cX.2.1
  have hl : lv_has ls 2 [(0, .ref (b 0))] := hl
  have hR := hR0.rf
  refine lv_aload_n hx hb dX7_tick_0 rfl (lv_at hl 0 rfl) ?_
  refine r_get cX inX7 hw hR.1.1 rfl 0 (by decide) wF_X7_7 rfl dX7_tick_1 ?_
  refine lv_iconst (v := 0) hx hb dX7_tick_4 (by decide) ?_
  refine lv_dup2_11 hx hb dX7_tick_5 rfl rfl ?_
  refine r_iald (v := f 0) cX hw hR.1.2.1 0 rfl (by decide) (by decide) rfl dX7_tick_6 ?_
  refine lv_iconst (v := 1) hx hb dX7_tick_7 (by decide) ?_
  refine lv_iadd hx hb dX7_tick_8 ?_
  refine r_iast cX hw hR.1.2.1 0 rfl (by decide) (by decide) dX7_tick_9 (fun H locs hw => ?_)
  have hR := hR.a1 (x := upd f 0 ((f 0) + 1))
  have hR := hR.re (g := t1F f) rfl
  refine lv_iconst (v := 0) hx hb dX7_tick_10 (by decide) ?_
  refine lv_istore_n (lv' := [(1, .int 0), (0, .ref (b 0))]) hx hb dX7_tick_11 rfl hl (by decide) rfl (fun ls hl => ?_)
  have lp12 : ∀ (nn i : Nat), i ≤ nP (t1F f) → nP (t1F f) < i + nn → ∀ (M1 : HM) (H : Heap) (locs : List Loc) (ls : Array Slot), Wd G (dm M s.heap.size) s.heap M1 H locs → Rf G M M1 b (dcN (t1F f) i) sv sl fl T iF iN ct len at_ it → (i = 0 ∨ jr (t1F f 0) 10 = 0) → lv_has ls 2 [(1, .int (nI i)), (0, .ref (b 0))] → W p l e (rd 1 0 0) s m args below meth c H locs 0 0 (MQ below (QV G M s.heap.size (fun M' => Rf G M M' b (tiF f) sv sl fl T iF iN ct len at_ it)) args s 0 0 (dm M s.heap.size)) (F0 m 12 ls []) := by
    intro nn
    induction nn with
    | zero =>
      intro i h1 h2
      exact absurd h2 (by omega)
    | succ nn ih =>
      intro i hi hin M1 H locs ls hw hR hz hl
      refine lv_iload_n hx hb dX7_tick_12 rfl (lv_at hl 0 rfl) ?_
      refine lv_aload_n hx hb dX7_tick_13 rfl (lv_at hl 1 rfl) ?_
      refine r_get cX inX7 hw hR.1.1 rfl 0 (by decide) wF_X7_7 rfl dX7_tick_14 ?_
      refine lv_iconst (v := 1) hx hb dX7_tick_17 (by decide) ?_
      refine r_iald (v := (dcN (t1F f) i) 1) cX hw hR.1.2.1 1 rfl (by decide) (by decide) rfl dX7_tick_18 ?_
      refine lv_icmp_ge (tgt := 69) hx hb dX7_tick_19 (by decide) (fun c19 => ?_) (fun c19 => ?_)
      · obtain rfl : i = nP (t1F f) := Nat.le_antisymm hi (ix_ge (b := nP (t1F f)) (by omega) (by omega) (by rw [← ((dcN_o (t1F f) i 1 (by omega)).trans e3)]; exact c19))
        have hR := hR.re (g := t2F (t1F f)) (by unfold t2F; rw [if_pos (hz.resolve_left (by omega))])
        have hv2 := hv1.t2.1
        refine lv_aload_n hx hb dX7_tick_69 rfl (lv_at hl 1 rfl) ?_
        refine r_get cX inX7 hw hR.1.1 rfl 0 (by decide) wF_X7_7 rfl dX7_tick_70 ?_
        refine lv_iconst (v := 4) hx hb dX7_tick_73 (by decide) ?_
        refine r_iald (v := (t2F (t1F f)) 4) cX hw hR.1.2.1 4 rfl (by decide) (by decide) rfl dX7_tick_74 ?_
        refine lv_iconst (v := 1) hx hb dX7_tick_75 (by decide) ?_
        refine lv_icmp_ne (tgt := 99) hx hb dX7_tick_76 (by decide) (fun c76 => ?_) (fun c76 => ?_)
        · have hR := hR.re (g := tiF f) (by show _ = t3F (t2F (t1F f)); unfold t3F; rw [if_neg (fun h => c76 h.1)])
          exact r_vret cX hr hlocks hw hR dX7_tick_99
        · refine lv_aload_n hx hb dX7_tick_79 rfl (lv_at hl 1 rfl) ?_
          refine r_get cX inX7 hw hR.1.1 rfl 0 (by decide) wF_X7_7 rfl dX7_tick_80 ?_
          refine lv_iconst (v := 0) hx hb dX7_tick_83 (by decide) ?_
          refine r_iald (v := (t2F (t1F f)) 0) cX hw hR.1.2.1 0 rfl (by decide) (by decide) rfl dX7_tick_84 ?_
          refine lv_aload_n hx hb dX7_tick_85 rfl (lv_at hl 1 rfl) ?_
          refine r_get cX inX7 hw hR.1.1 rfl 0 (by decide) wF_X7_7 rfl dX7_tick_86 ?_
          refine lv_iconst (v := 3) hx hb dX7_tick_89 (by decide) ?_
          refine r_iald (v := (t2F (t1F f)) 3) cX hw hR.1.2.1 3 rfl (by decide) (by decide) rfl dX7_tick_90 ?_
          refine r_irem hx hb dX7_tick_91 hv2.nz3 ?_
          refine lv_if_ne (tgt := 99) hx hb dX7_tick_92 (by decide) (fun c92 => ?_) (fun c92 => ?_)
          · have hR := hR.re (g := tiF f) (by show _ = t3F (t2F (t1F f)); unfold t3F; rw [if_neg (fun h => c92 h.2)])
            exact r_vret cX hr hlocks hw hR dX7_tick_99
          · refine lv_aload_n hx hb dX7_tick_95 rfl (lv_at hl 1 rfl) ?_
            refine r_Vv cX hw hR.1.1 rfl [] (c_X7_age l G hR.1 hv2) wM_X7_59 mw_X7_age ⟨Nat.le_of_ble_eq_true rfl, Nat.le_of_ble_eq_true rfl⟩ rfl rfl hl.1 (Nat.le_of_ble_eq_true rfl) dX7_tick_96 ⟨Nat.le_of_ble_eq_true rfl, Nat.le_of_ble_eq_true rfl⟩ (fun M1 H locs hp hw => ?_)
            have hR := hR.trans hp
            have hR := hR.re (g := tiF f) (by show _ = t3F (t2F (t1F f)); unfold t3F; rw [if_pos ⟨c76, c92⟩])
            exact r_vret cX hr hlocks hw hR dX7_tick_99
      · have hlt : i < nP (t1F f) := ix_lt (b := nP (t1F f)) (by omega) (by rw [← ((dcN_o (t1F f) i 1 (by omega)).trans e3)]; exact c19)
        refine lv_aload_n hx hb dX7_tick_22 rfl (lv_at hl 1 rfl) ?_
        refine r_get cX inX7 hw hR.1.1 rfl 0 (by decide) wF_X7_7 rfl dX7_tick_23 ?_
        refine lv_iconst (v := 0) hx hb dX7_tick_26 (by decide) ?_
        refine r_iald (v := (dcN (t1F f) i) 0) cX hw hR.1.2.1 0 rfl (by decide) (by decide) rfl dX7_tick_27 ?_
        refine lv_bipush (v := 10) hx hb dX7_tick_28 (by decide) ?_
        refine r_irem hx hb dX7_tick_30 (by decide) ?_
        refine lv_if_ne (tgt := 69) hx hb dX7_tick_31 (by decide) (fun c31 => ?_) (fun c31 => ?_)
        · rw [dcN_o (t1F f) i 0 (by omega)] at c31
          obtain rfl : i = 0 := hz.resolve_right c31
          have hR := hR.re (g := t2F (t1F f)) (by unfold t2F; rw [if_neg c31]; rfl)
          have hv2 := hv1.t2.1
          refine lv_aload_n hx hb dX7_tick_69 rfl (lv_at hl 1 rfl) ?_
          refine r_get cX inX7 hw hR.1.1 rfl 0 (by decide) wF_X7_7 rfl dX7_tick_70 ?_
          refine lv_iconst (v := 4) hx hb dX7_tick_73 (by decide) ?_
          refine r_iald (v := (t2F (t1F f)) 4) cX hw hR.1.2.1 4 rfl (by decide) (by decide) rfl dX7_tick_74 ?_
          refine lv_iconst (v := 1) hx hb dX7_tick_75 (by decide) ?_
          refine lv_icmp_ne (tgt := 99) hx hb dX7_tick_76 (by decide) (fun c76 => ?_) (fun c76 => ?_)
          · have hR := hR.re (g := tiF f) (by show _ = t3F (t2F (t1F f)); unfold t3F; rw [if_neg (fun h => c76 h.1)])
            exact r_vret cX hr hlocks hw hR dX7_tick_99
          · refine lv_aload_n hx hb dX7_tick_79 rfl (lv_at hl 1 rfl) ?_
            refine r_get cX inX7 hw hR.1.1 rfl 0 (by decide) wF_X7_7 rfl dX7_tick_80 ?_
            refine lv_iconst (v := 0) hx hb dX7_tick_83 (by decide) ?_
            refine r_iald (v := (t2F (t1F f)) 0) cX hw hR.1.2.1 0 rfl (by decide) (by decide) rfl dX7_tick_84 ?_
            refine lv_aload_n hx hb dX7_tick_85 rfl (lv_at hl 1 rfl) ?_
            refine r_get cX inX7 hw hR.1.1 rfl 0 (by decide) wF_X7_7 rfl dX7_tick_86 ?_
            refine lv_iconst (v := 3) hx hb dX7_tick_89 (by decide) ?_
            refine r_iald (v := (t2F (t1F f)) 3) cX hw hR.1.2.1 3 rfl (by decide) (by decide) rfl dX7_tick_90 ?_
            refine r_irem hx hb dX7_tick_91 hv2.nz3 ?_
            refine lv_if_ne (tgt := 99) hx hb dX7_tick_92 (by decide) (fun c92 => ?_) (fun c92 => ?_)
            · have hR := hR.re (g := tiF f) (by show _ = t3F (t2F (t1F f)); unfold t3F; rw [if_neg (fun h => c92 h.2)])
              exact r_vret cX hr hlocks hw hR dX7_tick_99
            · refine lv_aload_n hx hb dX7_tick_95 rfl (lv_at hl 1 rfl) ?_
              refine r_Vv cX hw hR.1.1 rfl [] (c_X7_age l G hR.1 hv2) wM_X7_59 mw_X7_age ⟨Nat.le_of_ble_eq_true rfl, Nat.le_of_ble_eq_true rfl⟩ rfl rfl hl.1 (Nat.le_of_ble_eq_true rfl) dX7_tick_96 ⟨Nat.le_of_ble_eq_true rfl, Nat.le_of_ble_eq_true rfl⟩ (fun M1 H locs hp hw => ?_)
              have hR := hR.trans hp
              have hR := hR.re (g := tiF f) (by show _ = t3F (t2F (t1F f)); unfold t3F; rw [if_pos ⟨c76, c92⟩])
              exact r_vret cX hr hlocks hw hR dX7_tick_99
        · rw [dcN_o (t1F f) i 0 (by omega)] at c31
          refine lv_aload_n hx hb dX7_tick_34 rfl (lv_at hl 1 rfl) ?_
          refine r_get cX inX7 hw hR.1.1 rfl 0 (by decide) wF_X7_7 rfl dX7_tick_35 ?_
          refine lv_bipush (v := 21) hx hb dX7_tick_38 (by decide) ?_
          refine lv_iload_n hx hb dX7_tick_40 rfl (lv_at hl 0 rfl) ?_
          refine lv_iadd hx hb dX7_tick_41 ?_
          refine lv_dup2_11 hx hb dX7_tick_42 rfl rfl ?_
          refine r_iald (v := (dcN (t1F f) i) (21 + i)) cX hw hR.1.2.1 (21 + i) (nI_add 21 i) (by omega) (by decide) rfl dX7_tick_43 ?_
          refine lv_aload_n hx hb dX7_tick_44 rfl (lv_at hl 1 rfl) ?_
          refine r_get cX inX7 hw hR.1.1 rfl 0 (by decide) wF_X7_7 rfl dX7_tick_45 ?_
          refine lv_bipush (v := 21) hx hb dX7_tick_48 (by decide) ?_
          refine lv_iload_n hx hb dX7_tick_50 rfl (lv_at hl 0 rfl) ?_
          refine lv_iadd hx hb dX7_tick_51 ?_
          refine r_iald (v := (dcN (t1F f) i) (21 + i)) cX hw hR.1.2.1 (21 + i) (nI_add 21 i) (by omega) (by decide) rfl dX7_tick_52 ?_
          refine lv_aload_n hx hb dX7_tick_53 rfl (lv_at hl 1 rfl) ?_
          refine r_get cX inX7 hw hR.1.1 rfl 0 (by decide) wF_X7_7 rfl dX7_tick_54 ?_
          refine lv_bipush (v := 6) hx hb dX7_tick_57 (by decide) ?_
          refine r_iald (v := (dcN (t1F f) i) 6) cX hw hR.1.2.1 6 rfl (by decide) (by decide) rfl dX7_tick_59 ?_
          refine lv_ishr hx hb dX7_tick_60 ?_
          refine lv_isub hx hb dX7_tick_61 ?_
          refine r_iast cX hw hR.1.2.1 (21 + i) (nI_add 21 i) (by omega) (by decide) dX7_tick_62 (fun H locs hw => ?_)
          have hR := hR.a1 (x := upd (dcN (t1F f) i) (21 + i) (((dcN (t1F f) i) (21 + i)) - (((dcN (t1F f) i) (21 + i)) >>> ((dcN (t1F f) i) 6 &&& 31))))
          refine lv_iinc (v := (nI (i + 1))) (lv' := [(1, .int (nI (i + 1))), (0, .ref (b 0))]) hx hb dX7_tick_63 hl (k := 0) rfl (nI_1 i) (by decide) rfl (fun ls hl => ?_)
          refine lv_goto (tgt := 12) hx hb dX7_tick_66 (by decide) ?_
          have hR := hR.re (g := dcN (t1F f) (i + 1)) (by show _ = upd _ _ _; rw [dcN_o (t1F f) i 6 (by omega)])
          exact ih (i + 1) (by omega) (by omega) _ _ _ _ hw hR (Or.inr c31) (lv_sub hl [0, 1] rfl)
  exact lp12 (nP (t1F f) + 1) 0 (by omega) (by omega) _ _ _ _ hw hR (Or.inl rfl) (lv_sub hl [0, 1] rfl)

set_option maxHeartbeats 4000000 in
set_option maxRecDepth 100000 in
theorem c_X7_pass (l : Launch) (G : gG) {M : HM} {b : Nat → Nat} {f sv sl fl T iF iN : Nat → Int32} {ct len at_ it : Int32} (hR0 : IsRf G M b f sv sl fl T iF iN ct len at_ it) {B : Nat} (hv : Inv B f) {T0 n : Nat} (hT : f 0 = nI T0) (hTn : T0 + n ≤ 1000000) : Ci l yX7_pass cX7_pass 3 .int (rd 2 0 0) G [.ref (b 0), .int (nI n)] M (fun r M' => r = psN f n 0 ∧ Rf G M M' b (psN f n) sv sl fl T iF iN ct len at_ it) := by
  refine Ci.of (by decide) (Nat.le_of_ble_eq_true rfl) ?_
  intro p e s m args below meth c ls cX hw hlocks hr hl
  have hx := cX.1
  have hb := cX.2.1
  have hl : lv_has ls 3 [(0, .ref (b 0)), (1, .int (nI n))] := hl
  have hR := hR0.rf
  refine lv_iconst (v := 0) hx hb dX7_pass_0 (by decide) ?_
  refine lv_istore_n (lv' := [(2, .int 0), (0, .ref (b 0)), (1, .int (nI n))]) hx hb dX7_pass_1 rfl hl (by decide) rfl (fun ls hl => ?_)
  have lp2 : ∀ (nn i : Nat), i ≤ n → n < i + nn → ∀ (M1 : HM) (H : Heap) (locs : List Loc) (ls : Array Slot), Wd G (dm M s.heap.size) s.heap M1 H locs → Rf G M M1 b (psN f i) sv sl fl T iF iN ct len at_ it → lv_has ls 3 [(2, .int (nI i)), (1, .int (nI n)), (0, .ref (b 0))] → W p l e (rd 2 0 0) s m args below meth c H locs 0 0 (MQ below (QI G M s.heap.size (fun r M' => r = psN f n 0 ∧ Rf G M M' b (psN f n) sv sl fl T iF iN ct len at_ it)) args s 0 0 (dm M s.heap.size)) (F0 m 2 ls []) := by
    intro nn
    induction nn with
    | zero =>
      intro i h1 h2
      exact absurd h2 (by omega)
    | succ nn ih =>
      intro i hi hin M1 H locs ls hw hR hl
      refine lv_iload_n hx hb dX7_pass_2 rfl (lv_at hl 0 rfl) ?_
      refine lv_iload_n hx hb dX7_pass_3 rfl (lv_at hl 1 rfl) ?_
      refine lv_icmp_ge (tgt := 17) hx hb dX7_pass_4 (by decide) (fun c4 => ?_) (fun c4 => ?_)
      · obtain rfl : i = n := Nat.le_antisymm hi (ix_ge (by omega) (by omega) c4)
        refine lv_aload_n hx hb dX7_pass_17 rfl (lv_at hl 2 rfl) ?_
        refine r_get cX inX7 hw hR.1.1 rfl 0 (by decide) wF_X7_7 rfl dX7_pass_18 ?_
        refine lv_iconst (v := 0) hx hb dX7_pass_21 (by decide) ?_
        refine r_iald (v := (psN f i) 0) cX hw hR.1.2.1 0 rfl (by decide) (by decide) rfl dX7_pass_22 ?_
        exact r_iret cX hr hlocks hw ⟨rfl, hR⟩ dX7_pass_23
      · have hlt : i < n := ix_lt (by omega) c4
        obtain ⟨hvi, hTi⟩ := hv.ps hT hTn i (by omega)
        refine lv_aload_n hx hb dX7_pass_7 rfl (lv_at hl 2 rfl) ?_
        refine r_Vv cX hw hR.1.1 rfl [] (c_X7_tick l G hR.1 hvi hTi (by omega)) wM_X7_62 mw_X7_tick ⟨Nat.le_of_ble_eq_true rfl, Nat.le_of_ble_eq_true rfl⟩ rfl rfl hl.1 (Nat.le_of_ble_eq_true rfl) dX7_pass_8 ⟨Nat.le_of_ble_eq_true rfl, Nat.le_of_ble_eq_true rfl⟩ (fun M1 H locs hp hw => ?_)
        have hR := hR.trans hp
        have hR := hR.re (g := psN f (i + 1)) rfl
        refine lv_iinc (v := (nI (i + 1))) (lv' := [(2, .int (nI (i + 1))), (1, .int (nI n)), (0, .ref (b 0))]) hx hb dX7_pass_11 hl (k := 0) rfl (nI_1 i) (by decide) rfl (fun ls hl => ?_)
        refine lv_goto (tgt := 2) hx hb dX7_pass_14 (by decide) ?_
        exact ih (i + 1) (by omega) (by omega) _ _ _ _ hw hR (lv_sub hl [0, 1, 2] rfl)
  exact lp2 (n + 1) 0 (by omega) (by omega) _ _ _ _ hw hR (lv_sub hl [0, 2, 1] rfl)

set_option maxHeartbeats 4000000 in
set_option maxRecDepth 100000 in
theorem c_X7_whyNotPass (l : Launch) (G : gG) {M : HM} {b : Nat → Nat} {f sv sl fl T iF iN : Nat → Int32} {ct len at_ it : Int32} (hR0 : IsRf G M b f sv sl fl T iF iN ct len at_ it) {B : Nat} (hv : Inv B f) (x : Int32) : Ci l yX7_whyNotPass cX7_whyNotPass 2 .int (rd 1 0 0) G [.ref (b 0), .int x] M (fun r M' => r = (if 1 ≤ x ∧ x ≤ 1000 then (if x ≤ tmx - f 0 then 0 else -2) else -1) ∧ M' = M) := by
  refine Ci.of (by decide) (Nat.le_of_ble_eq_true rfl) ?_
  intro p e s m args below meth c ls cX hw hlocks hr hl
  have hx := cX.1
  have hb := cX.2.1
  have hl : lv_has ls 2 [(0, .ref (b 0)), (1, .int x)] := hl
  have hR := hR0.rf
  refine lv_iload_n hx hb dX7_whyNotPass_0 rfl (lv_at hl 1 rfl) ?_
  refine lv_iconst (v := 1) hx hb dX7_whyNotPass_1 (by decide) ?_
  refine lv_sipush (v := 1000) hx hb dX7_whyNotPass_2 (by decide) ?_
  refine r_Si cX hw [.int x, .int 1, .int 1000] (c_X7_in l G x 1 1000) wM_X7_36 mw_X7_in ⟨Nat.le_of_ble_eq_true rfl, Nat.le_of_ble_eq_true rfl⟩ rfl rfl hl.1 (Nat.le_of_ble_eq_true rfl) dX7_whyNotPass_5 ⟨Nat.le_of_ble_eq_true rfl, Nat.le_of_ble_eq_true rfl⟩ (fun r M1 H locs hp hw => ?_)
  obtain ⟨hr1, hq⟩ := hp
  subst hr1
  rw [hq] at hw
  refine lv_if_ne (tgt := 15) hx hb dX7_whyNotPass_8 (by decide) (fun c8 => ?_) (fun c8 => ?_)
  · refine lv_aload_n hx hb dX7_whyNotPass_15 rfl (lv_at hl 0 rfl) ?_
    refine r_get cX inX7 hw hR.1.1 rfl 0 (by decide) wF_X7_7 rfl dX7_whyNotPass_16 ?_
    refine lv_iconst (v := 0) hx hb dX7_whyNotPass_19 (by decide) ?_
    refine r_iald (v := f 0) cX hw hR.1.2.1 0 rfl (by decide) (by decide) rfl dX7_whyNotPass_20 ?_
    refine lv_iload_n hx hb dX7_whyNotPass_21 rfl (lv_at hl 1 rfl) ?_
    refine lv_iadd hx hb dX7_whyNotPass_22 ?_
    refine lv_ldc (v := 1000000) hx hb cX.2.2.2.1 (cX.2.2.2.2.ts _ wK_X7_65) dX7_whyNotPass_23 ?_
    refine lv_icmp_le (tgt := 33) hx hb dX7_whyNotPass_25 (by decide) (fun c25 => ?_) (fun c25 => ?_)
    · refine lv_iconst (v := 0) hx hb dX7_whyNotPass_33 (by decide) ?_
      exact r_iret cX hr hlocks hw ⟨by obtain ⟨T0, t1, t2⟩ := hv.1; rw [if_pos (if01n c8), if_pos ((wnp (if01n c8) t1 t2).mp c25)], rfl⟩ dX7_whyNotPass_34
    · refine lv_bipush (v := (-2)) hx hb dX7_whyNotPass_28 (by decide) ?_
      refine lv_goto (tgt := 34) hx hb dX7_whyNotPass_30 (by decide) ?_
      exact r_iret cX hr hlocks hw ⟨by obtain ⟨T0, t1, t2⟩ := hv.1; rw [if_pos (if01n c8), if_neg (fun h => c25 ((wnp (if01n c8) t1 t2).mpr h))], rfl⟩ dX7_whyNotPass_34
  · refine lv_iconst (v := (-1)) hx hb dX7_whyNotPass_11 (by decide) ?_
    refine lv_goto (tgt := 34) hx hb dX7_whyNotPass_12 (by decide) ?_
    exact r_iret cX hr hlocks hw ⟨by rw [if_neg (if01e c8)], rfl⟩ dX7_whyNotPass_34

set_option maxHeartbeats 4000000 in
set_option maxRecDepth 100000 in
theorem c_X7_take (l : Launch) (G : gG) {M : HM} {b : Nat → Nat} {f sv sl fl T iF iN : Nat → Int32} {ct len at_ it : Int32} (hR0 : IsRf G M b f sv sl fl T iF iN ct len at_ it) {B : Nat} (hv : Inv B f) (k : Nat) (hk : k < 16) (cc : Int32) : Cv l yX7_take cX7_take 4 (rd 1 0 0) G [.ref (b 0), .int (nI k), .int cc] M (fun M' => Rf G M M' b (tkF f k cc) sv sl fl T iF iN ct len at_ it) := by
  have he8 := (eN_lt hv k).2
  refine Cv.of (by decide) (Nat.le_of_ble_eq_true rfl) ?_
  intro p e s m args below meth c ls cX hw hlocks hr hnm hl
  have hx := cX.1
  have hb := cX.2.1
  have hl : lv_has ls 4 [(0, .ref (b 0)), (1, .int (nI k)), (2, .int cc)] := hl
  have hR := hR0.rf
  refine lv_aload_n hx hb dX7_take_0 rfl (lv_at hl 0 rfl) ?_
  refine r_get cX inX7 hw hR.1.1 rfl 0 (by decide) wF_X7_7 rfl dX7_take_1 ?_
  refine lv_bipush (v := 8) hx hb dX7_take_4 (by decide) ?_
  refine lv_dup2_11 hx hb dX7_take_6 rfl rfl ?_
  refine r_iald (v := f 8) cX hw hR.1.2.1 8 rfl (by decide) (by decide) rfl dX7_take_7 ?_
  refine lv_aload_n hx hb dX7_take_8 rfl (lv_at hl 0 rfl) ?_
  refine r_get cX inX7 hw hR.1.1 rfl 0 (by decide) wF_X7_7 rfl dX7_take_9 ?_
  refine lv_iconst (v := 5) hx hb dX7_take_12 (by decide) ?_
  refine r_iald (v := f 5) cX hw hR.1.2.1 5 rfl (by decide) (by decide) rfl dX7_take_13 ?_
  refine lv_iconst (v := 2) hx hb dX7_take_14 (by decide) ?_
  refine lv_icmp_ne (tgt := 22) hx hb dX7_take_15 (by decide) (fun c15 => ?_) (fun c15 => ?_)
  · refine lv_iconst (v := 0) hx hb dX7_take_22 (by decide) ?_
    refine lv_iadd hx hb dX7_take_23 ?_
    refine r_iast cX hw hR.1.2.1 8 rfl (by decide) (by decide) dX7_take_24 (fun H locs hw => ?_)
    have hR := hR.a1 (x := upd f 8 ((f 8) + 0))
    have hR := hR.re (g := f) (upd_id (Int32.add_zero _))
    refine lv_aload_n hx hb dX7_take_25 rfl (lv_at hl 0 rfl) ?_
    refine r_Vi cX hw hR.1.1 rfl [] (c_X7_isByFlowlets l G hR.1) wM_X7_92 mw_X7_isByFlowlets ⟨Nat.le_of_ble_eq_true rfl, Nat.le_of_ble_eq_true rfl⟩ rfl rfl hl.1 (Nat.le_of_ble_eq_true rfl) dX7_take_26 ⟨Nat.le_of_ble_eq_true rfl, Nat.le_of_ble_eq_true rfl⟩ (fun r M1 H locs hp hw => ?_)
    obtain ⟨hr1, hq⟩ := hp
    subst hr1
    rw [hq] at hw
    refine lv_if_ne (tgt := 33) hx hb dX7_take_29 (by decide) (fun c29 => ?_) (fun c29 => ?_)
    · refine lv_aload_n hx hb dX7_take_33 rfl (lv_at hl 0 rfl) ?_
      refine lv_iload_n hx hb dX7_take_34 rfl (lv_at hl 1 rfl) ?_
      refine r_Vi cX hw hR.1.1 rfl [.int (nI k)] (c_X7_slotOf l G hR.1 (nI k) hv.nz2) wM_X7_47 mw_X7_slotOf ⟨Nat.le_of_ble_eq_true rfl, Nat.le_of_ble_eq_true rfl⟩ rfl rfl hl.1 (Nat.le_of_ble_eq_true rfl) dX7_take_35 ⟨Nat.le_of_ble_eq_true rfl, Nat.le_of_ble_eq_true rfl⟩ (fun r M1 H locs hp hw => ?_)
      obtain ⟨hr1, hq⟩ := hp
      subst hr1
      rw [hq] at hw
      refine lv_istore_n (lv' := [(3, .int (jr (7 * (nI k) + 3) (f 2))), (0, .ref (b 0)), (1, .int (nI k)), (2, .int cc)]) hx hb dX7_take_38 rfl hl (by decide) rfl (fun ls hl => ?_)
      refine lv_aload_n hx hb dX7_take_39 rfl (lv_at hl 1 rfl) ?_
      refine lv_iload_n hx hb dX7_take_40 rfl (lv_at hl 0 rfl) ?_
      refine r_Vi cX hw hR.1.1 rfl [.int (jr (7 * (nI k) + 3) (f 2))] (c_X7_isLive l G hR.1 _ (eN f k) (eN_eq hv k hk) (eN_lt hv k).2) wM_X7_81 mw_X7_isLive ⟨Nat.le_of_ble_eq_true rfl, Nat.le_of_ble_eq_true rfl⟩ rfl rfl hl.1 (Nat.le_of_ble_eq_true rfl) dX7_take_41 ⟨Nat.le_of_ble_eq_true rfl, Nat.le_of_ble_eq_true rfl⟩ (fun r M1 H locs hp hw => ?_)
      obtain ⟨hr1, hq⟩ := hp
      subst hr1
      rw [hq] at hw
      refine lv_if_ne (tgt := 91) hx hb dX7_take_44 (by decide) (fun c44 => ?_) (fun c44 => ?_)
      · have hR := hR.re (g := tb1 f k) (by unfold tb1; rw [if_pos (if01n c44)])
        refine lv_aload_n hx hb dX7_take_91 rfl (lv_at hl 1 rfl) ?_
        refine r_get cX inX7 hw hR.1.1 rfl 0 (by decide) wF_X7_7 rfl dX7_take_92 ?_
        refine lv_bipush (v := 41) hx hb dX7_take_95 (by decide) ?_
        refine lv_iload_n hx hb dX7_take_97 rfl (lv_at hl 0 rfl) ?_
        refine lv_iadd hx hb dX7_take_98 ?_
        refine lv_iconst (v := 1) hx hb dX7_take_99 (by decide) ?_
        refine r_iast cX hw hR.1.2.1 (41 + eN f k) (by rw [eN_eq hv k hk]; exact nI_add 41 (eN f k)) (by omega) (by decide) dX7_take_100 (fun H locs hw => ?_)
        have hR := hR.a1 (x := upd (tb1 f k) (41 + eN f k) 1)
        refine lv_aload_n hx hb dX7_take_101 rfl (lv_at hl 1 rfl) ?_
        refine r_get cX inX7 hw hR.1.1 rfl 0 (by decide) wF_X7_7 rfl dX7_take_102 ?_
        refine lv_bipush (v := 49) hx hb dX7_take_105 (by decide) ?_
        refine lv_iload_n hx hb dX7_take_107 rfl (lv_at hl 0 rfl) ?_
        refine lv_iadd hx hb dX7_take_108 ?_
        refine lv_iload_n hx hb dX7_take_109 rfl (lv_at hl 3 rfl) ?_
        refine r_iast cX hw hR.1.2.1 (49 + eN f k) (by rw [eN_eq hv k hk]; exact nI_add 49 (eN f k)) (by omega) (by decide) dX7_take_110 (fun H locs hw => ?_)
        have hR := hR.a1 (x := upd (upd (tb1 f k) (41 + eN f k) 1) (49 + eN f k) cc)
        refine lv_aload_n hx hb dX7_take_111 rfl (lv_at hl 1 rfl) ?_
        refine r_get cX inX7 hw hR.1.1 rfl 0 (by decide) wF_X7_7 rfl dX7_take_112 ?_
        refine lv_bipush (v := 57) hx hb dX7_take_115 (by decide) ?_
        refine lv_iload_n hx hb dX7_take_117 rfl (lv_at hl 0 rfl) ?_
        refine lv_iadd hx hb dX7_take_118 ?_
        refine lv_aload_n hx hb dX7_take_119 rfl (lv_at hl 1 rfl) ?_
        refine r_get cX inX7 hw hR.1.1 rfl 0 (by decide) wF_X7_7 rfl dX7_take_120 ?_
        refine lv_iconst (v := 0) hx hb dX7_take_123 (by decide) ?_
        refine r_iald (v := (tb1 f k) 0) cX hw hR.1.2.1 0 rfl (by decide) (by decide) (by rw [pk_un (by omega), pk_un (by omega)]) dX7_take_124 ?_
        refine r_iast cX hw hR.1.2.1 (57 + eN f k) (by rw [eN_eq hv k hk]; exact nI_add 57 (eN f k)) (by omega) (by decide) dX7_take_125 (fun H locs hw => ?_)
        have hR := hR.a1 (x := upd (upd (upd (tb1 f k) (41 + eN f k) 1) (49 + eN f k) cc) (57 + eN f k) ((tb1 f k) 0))
        refine lv_aload_n hx hb dX7_take_126 rfl (lv_at hl 1 rfl) ?_
        refine r_get cX inX7 hw hR.1.1 rfl 0 (by decide) wF_X7_7 rfl dX7_take_127 ?_
        refine lv_bipush (v := 65) hx hb dX7_take_130 (by decide) ?_
        refine lv_iload_n hx hb dX7_take_132 rfl (lv_at hl 0 rfl) ?_
        refine lv_iadd hx hb dX7_take_133 ?_
        refine lv_iconst (v := 0) hx hb dX7_take_134 (by decide) ?_
        refine r_iast cX hw hR.1.2.1 (65 + eN f k) (by rw [eN_eq hv k hk]; exact nI_add 65 (eN f k)) (by omega) (by decide) dX7_take_135 (fun H locs hw => ?_)
        have hR := hR.a1 (x := upd (upd (upd (upd (tb1 f k) (41 + eN f k) 1) (49 + eN f k) cc) (57 + eN f k) ((tb1 f k) 0)) (65 + eN f k) 0)
        exact r_vret cX hr hlocks hw (hR.re (by unfold tkF; rw [if_pos (if01n c29)]; unfold tabF; rw [tb1_o f k 0 (by omega) (by omega)])) dX7_take_136
      · refine lv_aload_n hx hb dX7_take_47 rfl (lv_at hl 1 rfl) ?_
        refine r_get cX inX7 hw hR.1.1 rfl 0 (by decide) wF_X7_7 rfl dX7_take_48 ?_
        refine lv_bipush (v := 73) hx hb dX7_take_51 (by decide) ?_
        refine lv_iload_n hx hb dX7_take_53 rfl (lv_at hl 2 rfl) ?_
        refine lv_iadd hx hb dX7_take_54 ?_
        refine lv_dup2_11 hx hb dX7_take_55 rfl rfl ?_
        refine r_iald (v := f (73 + k)) cX hw hR.1.2.1 (73 + k) (nI_add 73 k) (by omega) (by decide) rfl dX7_take_56 ?_
        refine lv_iconst (v := 1) hx hb dX7_take_57 (by decide) ?_
        refine lv_iadd hx hb dX7_take_58 ?_
        refine r_iast cX hw hR.1.2.1 (73 + k) (nI_add 73 k) (by omega) (by decide) dX7_take_59 (fun H locs hw => ?_)
        have hR := hR.a1 (x := upd f (73 + k) ((f (73 + k)) + 1))
        refine lv_aload_n hx hb dX7_take_60 rfl (lv_at hl 1 rfl) ?_
        refine r_get cX inX7 hw hR.1.1 rfl 0 (by decide) wF_X7_7 rfl dX7_take_61 ?_
        refine lv_bipush (v := 7) hx hb dX7_take_64 (by decide) ?_
        refine lv_aload_n hx hb dX7_take_66 rfl (lv_at hl 1 rfl) ?_
        refine r_get cX inX7 hw hR.1.1 rfl 0 (by decide) wF_X7_7 rfl dX7_take_67 ?_
        refine lv_iconst (v := 5) hx hb dX7_take_70 (by decide) ?_
        refine r_iald (v := f 5) cX hw hR.1.2.1 5 rfl (by decide) (by decide) (by rw [pk_un (by omega)]) dX7_take_71 ?_
        refine lv_iconst (v := 3) hx hb dX7_take_72 (by decide) ?_
        refine lv_icmp_ne (tgt := 83) hx hb dX7_take_73 (by decide) (fun c73 => ?_) (fun c73 => ?_)
        · refine lv_aload_n hx hb dX7_take_83 rfl (lv_at hl 1 rfl) ?_
          refine r_get cX inX7 hw hR.1.1 rfl 0 (by decide) wF_X7_7 rfl dX7_take_84 ?_
          refine lv_bipush (v := 7) hx hb dX7_take_87 (by decide) ?_
          refine r_iald (v := f 7) cX hw hR.1.2.1 7 rfl (by decide) (by decide) (by rw [pk_un (by omega)]) dX7_take_89 ?_
          refine r_iast cX hw hR.1.2.1 7 rfl (by decide) (by decide) dX7_take_90 (fun H locs hw => ?_)
          have hR := hR.a1 (x := upd (upd f (73 + k) ((f (73 + k)) + 1)) 7 (f 7))
          have hR := hR.re (g := tb1 f k) (by rw [upd_id (by rw [pk_un (by omega)])]; unfold tb1; rw [if_neg (if01e c44), if_neg c73])
          refine lv_aload_n hx hb dX7_take_91 rfl (lv_at hl 1 rfl) ?_
          refine r_get cX inX7 hw hR.1.1 rfl 0 (by decide) wF_X7_7 rfl dX7_take_92 ?_
          refine lv_bipush (v := 41) hx hb dX7_take_95 (by decide) ?_
          refine lv_iload_n hx hb dX7_take_97 rfl (lv_at hl 0 rfl) ?_
          refine lv_iadd hx hb dX7_take_98 ?_
          refine lv_iconst (v := 1) hx hb dX7_take_99 (by decide) ?_
          refine r_iast cX hw hR.1.2.1 (41 + eN f k) (by rw [eN_eq hv k hk]; exact nI_add 41 (eN f k)) (by omega) (by decide) dX7_take_100 (fun H locs hw => ?_)
          have hR := hR.a1 (x := upd (tb1 f k) (41 + eN f k) 1)
          refine lv_aload_n hx hb dX7_take_101 rfl (lv_at hl 1 rfl) ?_
          refine r_get cX inX7 hw hR.1.1 rfl 0 (by decide) wF_X7_7 rfl dX7_take_102 ?_
          refine lv_bipush (v := 49) hx hb dX7_take_105 (by decide) ?_
          refine lv_iload_n hx hb dX7_take_107 rfl (lv_at hl 0 rfl) ?_
          refine lv_iadd hx hb dX7_take_108 ?_
          refine lv_iload_n hx hb dX7_take_109 rfl (lv_at hl 3 rfl) ?_
          refine r_iast cX hw hR.1.2.1 (49 + eN f k) (by rw [eN_eq hv k hk]; exact nI_add 49 (eN f k)) (by omega) (by decide) dX7_take_110 (fun H locs hw => ?_)
          have hR := hR.a1 (x := upd (upd (tb1 f k) (41 + eN f k) 1) (49 + eN f k) cc)
          refine lv_aload_n hx hb dX7_take_111 rfl (lv_at hl 1 rfl) ?_
          refine r_get cX inX7 hw hR.1.1 rfl 0 (by decide) wF_X7_7 rfl dX7_take_112 ?_
          refine lv_bipush (v := 57) hx hb dX7_take_115 (by decide) ?_
          refine lv_iload_n hx hb dX7_take_117 rfl (lv_at hl 0 rfl) ?_
          refine lv_iadd hx hb dX7_take_118 ?_
          refine lv_aload_n hx hb dX7_take_119 rfl (lv_at hl 1 rfl) ?_
          refine r_get cX inX7 hw hR.1.1 rfl 0 (by decide) wF_X7_7 rfl dX7_take_120 ?_
          refine lv_iconst (v := 0) hx hb dX7_take_123 (by decide) ?_
          refine r_iald (v := (tb1 f k) 0) cX hw hR.1.2.1 0 rfl (by decide) (by decide) (by rw [pk_un (by omega), pk_un (by omega)]) dX7_take_124 ?_
          refine r_iast cX hw hR.1.2.1 (57 + eN f k) (by rw [eN_eq hv k hk]; exact nI_add 57 (eN f k)) (by omega) (by decide) dX7_take_125 (fun H locs hw => ?_)
          have hR := hR.a1 (x := upd (upd (upd (tb1 f k) (41 + eN f k) 1) (49 + eN f k) cc) (57 + eN f k) ((tb1 f k) 0))
          refine lv_aload_n hx hb dX7_take_126 rfl (lv_at hl 1 rfl) ?_
          refine r_get cX inX7 hw hR.1.1 rfl 0 (by decide) wF_X7_7 rfl dX7_take_127 ?_
          refine lv_bipush (v := 65) hx hb dX7_take_130 (by decide) ?_
          refine lv_iload_n hx hb dX7_take_132 rfl (lv_at hl 0 rfl) ?_
          refine lv_iadd hx hb dX7_take_133 ?_
          refine lv_iconst (v := 0) hx hb dX7_take_134 (by decide) ?_
          refine r_iast cX hw hR.1.2.1 (65 + eN f k) (by rw [eN_eq hv k hk]; exact nI_add 65 (eN f k)) (by omega) (by decide) dX7_take_135 (fun H locs hw => ?_)
          have hR := hR.a1 (x := upd (upd (upd (upd (tb1 f k) (41 + eN f k) 1) (49 + eN f k) cc) (57 + eN f k) ((tb1 f k) 0)) (65 + eN f k) 0)
          exact r_vret cX hr hlocks hw (hR.re (by unfold tkF; rw [if_pos (if01n c29)]; unfold tabF; rw [tb1_o f k 0 (by omega) (by omega)])) dX7_take_136
        · refine lv_aload_n hx hb dX7_take_76 rfl (lv_at hl 1 rfl) ?_
          refine r_Vi cX hw hR.1.1 rfl [] (c_X7_nextGenerator l G hR.1 (by rw [pk_un (by omega)]; exact hv.2.2.2.2.1)) wM_X7_87 mw_X7_nextGenerator ⟨Nat.le_of_ble_eq_true rfl, Nat.le_of_ble_eq_true rfl⟩ rfl rfl hl.1 (Nat.le_of_ble_eq_true rfl) dX7_take_77 ⟨Nat.le_of_ble_eq_true rfl, Nat.le_of_ble_eq_true rfl⟩ (fun r M1 H locs hp hw => ?_)
          obtain ⟨hr1, hq⟩ := hp
          rw [pk_un (by omega)] at hr1
          subst hr1
          rw [hq] at hw
          refine lv_goto (tgt := 90) hx hb dX7_take_80 (by decide) ?_
          refine r_iast cX hw hR.1.2.1 7 rfl (by decide) (by decide) dX7_take_90 (fun H locs hw => ?_)
          have hR := hR.a1 (x := upd (upd f (73 + k) ((f (73 + k)) + 1)) 7 (nx (f 7)))
          have hR := hR.re (g := tb1 f k) (by unfold tb1; rw [if_neg (if01e c44), if_pos c73])
          refine lv_aload_n hx hb dX7_take_91 rfl (lv_at hl 1 rfl) ?_
          refine r_get cX inX7 hw hR.1.1 rfl 0 (by decide) wF_X7_7 rfl dX7_take_92 ?_
          refine lv_bipush (v := 41) hx hb dX7_take_95 (by decide) ?_
          refine lv_iload_n hx hb dX7_take_97 rfl (lv_at hl 0 rfl) ?_
          refine lv_iadd hx hb dX7_take_98 ?_
          refine lv_iconst (v := 1) hx hb dX7_take_99 (by decide) ?_
          refine r_iast cX hw hR.1.2.1 (41 + eN f k) (by rw [eN_eq hv k hk]; exact nI_add 41 (eN f k)) (by omega) (by decide) dX7_take_100 (fun H locs hw => ?_)
          have hR := hR.a1 (x := upd (tb1 f k) (41 + eN f k) 1)
          refine lv_aload_n hx hb dX7_take_101 rfl (lv_at hl 1 rfl) ?_
          refine r_get cX inX7 hw hR.1.1 rfl 0 (by decide) wF_X7_7 rfl dX7_take_102 ?_
          refine lv_bipush (v := 49) hx hb dX7_take_105 (by decide) ?_
          refine lv_iload_n hx hb dX7_take_107 rfl (lv_at hl 0 rfl) ?_
          refine lv_iadd hx hb dX7_take_108 ?_
          refine lv_iload_n hx hb dX7_take_109 rfl (lv_at hl 3 rfl) ?_
          refine r_iast cX hw hR.1.2.1 (49 + eN f k) (by rw [eN_eq hv k hk]; exact nI_add 49 (eN f k)) (by omega) (by decide) dX7_take_110 (fun H locs hw => ?_)
          have hR := hR.a1 (x := upd (upd (tb1 f k) (41 + eN f k) 1) (49 + eN f k) cc)
          refine lv_aload_n hx hb dX7_take_111 rfl (lv_at hl 1 rfl) ?_
          refine r_get cX inX7 hw hR.1.1 rfl 0 (by decide) wF_X7_7 rfl dX7_take_112 ?_
          refine lv_bipush (v := 57) hx hb dX7_take_115 (by decide) ?_
          refine lv_iload_n hx hb dX7_take_117 rfl (lv_at hl 0 rfl) ?_
          refine lv_iadd hx hb dX7_take_118 ?_
          refine lv_aload_n hx hb dX7_take_119 rfl (lv_at hl 1 rfl) ?_
          refine r_get cX inX7 hw hR.1.1 rfl 0 (by decide) wF_X7_7 rfl dX7_take_120 ?_
          refine lv_iconst (v := 0) hx hb dX7_take_123 (by decide) ?_
          refine r_iald (v := (tb1 f k) 0) cX hw hR.1.2.1 0 rfl (by decide) (by decide) (by rw [pk_un (by omega), pk_un (by omega)]) dX7_take_124 ?_
          refine r_iast cX hw hR.1.2.1 (57 + eN f k) (by rw [eN_eq hv k hk]; exact nI_add 57 (eN f k)) (by omega) (by decide) dX7_take_125 (fun H locs hw => ?_)
          have hR := hR.a1 (x := upd (upd (upd (tb1 f k) (41 + eN f k) 1) (49 + eN f k) cc) (57 + eN f k) ((tb1 f k) 0))
          refine lv_aload_n hx hb dX7_take_126 rfl (lv_at hl 1 rfl) ?_
          refine r_get cX inX7 hw hR.1.1 rfl 0 (by decide) wF_X7_7 rfl dX7_take_127 ?_
          refine lv_bipush (v := 65) hx hb dX7_take_130 (by decide) ?_
          refine lv_iload_n hx hb dX7_take_132 rfl (lv_at hl 0 rfl) ?_
          refine lv_iadd hx hb dX7_take_133 ?_
          refine lv_iconst (v := 0) hx hb dX7_take_134 (by decide) ?_
          refine r_iast cX hw hR.1.2.1 (65 + eN f k) (by rw [eN_eq hv k hk]; exact nI_add 65 (eN f k)) (by omega) (by decide) dX7_take_135 (fun H locs hw => ?_)
          have hR := hR.a1 (x := upd (upd (upd (upd (tb1 f k) (41 + eN f k) 1) (49 + eN f k) cc) (57 + eN f k) ((tb1 f k) 0)) (65 + eN f k) 0)
          exact r_vret cX hr hlocks hw (hR.re (by unfold tkF; rw [if_pos (if01n c29)]; unfold tabF; rw [tb1_o f k 0 (by omega) (by omega)])) dX7_take_136
    · exact r_vret cX hr hlocks hw (hR.re (by unfold tkF; rw [if_neg (if01e c29), if_neg c15])) dX7_take_32
  · refine lv_iconst (v := 1) hx hb dX7_take_18 (by decide) ?_
    refine lv_goto (tgt := 23) hx hb dX7_take_19 (by decide) ?_
    refine lv_iadd hx hb dX7_take_23 ?_
    refine r_iast cX hw hR.1.2.1 8 rfl (by decide) (by decide) dX7_take_24 (fun H locs hw => ?_)
    have hR := hR.a1 (x := upd f 8 ((f 8) + 1))
    refine lv_aload_n hx hb dX7_take_25 rfl (lv_at hl 0 rfl) ?_
    refine r_Vi cX hw hR.1.1 rfl [] (c_X7_isByFlowlets l G hR.1) wM_X7_92 mw_X7_isByFlowlets ⟨Nat.le_of_ble_eq_true rfl, Nat.le_of_ble_eq_true rfl⟩ rfl rfl hl.1 (Nat.le_of_ble_eq_true rfl) dX7_take_26 ⟨Nat.le_of_ble_eq_true rfl, Nat.le_of_ble_eq_true rfl⟩ (fun r M1 H locs hp hw => ?_)
    obtain ⟨hr1, hq⟩ := hp
    subst hr1
    rw [hq] at hw
    refine lv_if_ne (tgt := 33) hx hb dX7_take_29 (by decide) (fun c29 => ?_) (fun c29 => ?_)
    · exact absurd (if01n c29) (by rw [pk_un (by decide), c15]; decide)
    · exact r_vret cX hr hlocks hw (hR.re (by unfold tkF; rw [if_neg (by rw [c15]; decide), if_pos c15])) dX7_take_32

set_option maxHeartbeats 4000000 in
set_option maxRecDepth 100000 in
theorem c_X7_transmit (l : Launch) (G : gG) {M : HM} {b : Nat → Nat} {f sv sl fl T iF iN : Nat → Int32} {ct len at_ it : Int32} (hR0 : IsRf G M b f sv sl fl T iF iN ct len at_ it) {B : Nat} (hv : Inv B f) (hB : B < 2 ^ 30) (k : Nat) (hk : k < 16) (size : Int32) : Ci l yX7_transmit cX7_transmit 6 .int (rd 3 0 0) G [.ref (b 0), .int (nI k), .int size] M (fun r M' => r = (sdF f k size).1 ∧ Rf G M M' b (sdF f k size).2 sv sl fl T iF iN ct len at_ it) := by
  obtain ⟨j, hjP, hc⟩ := chF_N hv hB k hk
  obtain ⟨e1, e2, e3⟩ := hv.P
  have hj : j < 4 := by omega
  have hcl : (chF f k).toNatClampNeg = j := by rw [hc]; exact nI_clamp (by omega)
  refine Ci.of (by decide) (Nat.le_of_ble_eq_true rfl) ?_
  intro p e s m args below meth c ls cX hw hlocks hr hl
  have hx := cX.1
  have hb := cX.2.1
  have hl : lv_has ls 6 [(0, .ref (b 0)), (1, .int (nI k)), (2, .int size)] := hl
  have hR := hR0.rf
  refine lv_aload_n hx hb dX7_transmit_0 rfl (lv_at hl 0 rfl) ?_
  refine lv_iload_n hx hb dX7_transmit_1 rfl (lv_at hl 1 rfl) ?_
  refine r_Vi cX hw hR.1.1 rfl [.int (nI k)] (c_X7_choose l G hR.1 hv k hk) wM_X7_96 mw_X7_choose ⟨Nat.le_of_ble_eq_true rfl, Nat.le_of_ble_eq_true rfl⟩ rfl rfl hl.1 (Nat.le_of_ble_eq_true rfl) dX7_transmit_2 ⟨Nat.le_of_ble_eq_true rfl, Nat.le_of_ble_eq_true rfl⟩ (fun r M1 H locs hp hw => ?_)
  obtain ⟨hr1, hq⟩ := hp
  subst hr1
  rw [hq] at hw
  refine lv_istore_n (lv' := [(3, .int (chF f k)), (0, .ref (b 0)), (1, .int (nI k)), (2, .int size)]) hx hb dX7_transmit_5 rfl hl (by decide) rfl (fun ls hl => ?_)
  refine lv_aload_n hx hb dX7_transmit_6 rfl (lv_at hl 1 rfl) ?_
  refine lv_iload_n hx hb dX7_transmit_7 rfl (lv_at hl 2 rfl) ?_
  refine lv_iload_n hx hb dX7_transmit_8 rfl (lv_at hl 0 rfl) ?_
  refine r_Vv cX hw hR.1.1 rfl [.int (nI k), .int (chF f k)] (c_X7_take l G hR.1 hv k hk (chF f k)) wM_X7_99 mw_X7_take ⟨Nat.le_of_ble_eq_true rfl, Nat.le_of_ble_eq_true rfl⟩ rfl rfl hl.1 (Nat.le_of_ble_eq_true rfl) dX7_transmit_9 ⟨Nat.le_of_ble_eq_true rfl, Nat.le_of_ble_eq_true rfl⟩ (fun M1 H locs hp hw => ?_)
  have hR := hR.trans hp
  have hvF : Inv (B + 1) (tkF f k (chF f k)) := by rw [hc]; exact hv.chosen k hk hjP
  have hs : sdF f k size = trF (tkF f k (chF f k)) k (chF f k) size := rfl
  generalize tkF f k (chF f k) = F at hR hvF hs
  refine lv_aload_n hx hb dX7_transmit_12 rfl (lv_at hl 1 rfl) ?_
  refine lv_iload_n hx hb dX7_transmit_13 rfl (lv_at hl 0 rfl) ?_
  refine r_Vi cX hw hR.1.1 rfl [.int (chF f k)] (c_X7_isTooBusy l G hR.1 (chF f k) j hc hj) wM_X7_102 mw_X7_isTooBusy ⟨Nat.le_of_ble_eq_true rfl, Nat.le_of_ble_eq_true rfl⟩ rfl rfl hl.1 (Nat.le_of_ble_eq_true rfl) dX7_transmit_14 ⟨Nat.le_of_ble_eq_true rfl, Nat.le_of_ble_eq_true rfl⟩ (fun r M1 H locs hp hw => ?_)
  obtain ⟨hr1, hq⟩ := hp
  subst hr1
  rw [hq] at hw
  refine lv_if_eq (tgt := 38) hx hb dX7_transmit_17 (by decide) (fun c17 => ?_) (fun c17 => ?_)
  · refine lv_aload_n hx hb dX7_transmit_38 rfl (lv_at hl 1 rfl) ?_
    refine lv_iload_n hx hb dX7_transmit_39 rfl (lv_at hl 0 rfl) ?_
    refine lv_iload_n hx hb dX7_transmit_40 rfl (lv_at hl 3 rfl) ?_
    refine r_Vi cX hw hR.1.1 rfl [.int (chF f k), .int size] (c_X7_endOf l G hR.1 (chF f k) j hc hj size (hvF.nzr j hj)) wM_X7_105 mw_X7_endOf ⟨Nat.le_of_ble_eq_true rfl, Nat.le_of_ble_eq_true rfl⟩ rfl rfl hl.1 (Nat.le_of_ble_eq_true rfl) dX7_transmit_41 ⟨Nat.le_of_ble_eq_true rfl, Nat.le_of_ble_eq_true rfl⟩ (fun r M1 H locs hp hw => ?_)
    obtain ⟨hr1, hq⟩ := hp
    subst hr1
    rw [hq] at hw
    refine lv_istore (lv' := [(4, .int (enF F j size)), (3, .int (chF f k)), (0, .ref (b 0)), (1, .int (nI k)), (2, .int size)]) hx hb dX7_transmit_44 hl (by decide) rfl (fun ls hl => ?_)
    refine lv_iload hx hb dX7_transmit_46 (lv_at hl 0 rfl) ?_
    refine lv_aload_n hx hb dX7_transmit_48 rfl (lv_at hl 2 rfl) ?_
    refine r_get cX inX7 hw hR.1.1 rfl 0 (by decide) wF_X7_7 rfl dX7_transmit_49 ?_
    refine lv_bipush (v := 9) hx hb dX7_transmit_52 (by decide) ?_
    refine lv_iload_n hx hb dX7_transmit_54 rfl (lv_at hl 1 rfl) ?_
    refine lv_iadd hx hb dX7_transmit_55 ?_
    refine r_iald (v := F (9 + j)) cX hw hR.1.2.1 (9 + j) (by rw [hc]; exact nI_add 9 j) (by omega) (by decide) rfl dX7_transmit_56 ?_
    refine lv_iadd hx hb dX7_transmit_57 ?_
    refine lv_istore (lv' := [(5, .int ((enF F j size) + (F (9 + j)))), (4, .int (enF F j size)), (3, .int (chF f k)), (0, .ref (b 0)), (1, .int (nI k)), (2, .int size)]) hx hb dX7_transmit_58 hl (by decide) rfl (fun ls hl => ?_)
    refine lv_aload_n hx hb dX7_transmit_60 rfl (lv_at hl 3 rfl) ?_
    refine r_get cX inX7 hw hR.1.1 rfl 0 (by decide) wF_X7_7 rfl dX7_transmit_61 ?_
    refine lv_bipush (v := 25) hx hb dX7_transmit_64 (by decide) ?_
    refine lv_iload_n hx hb dX7_transmit_66 rfl (lv_at hl 2 rfl) ?_
    refine lv_iadd hx hb dX7_transmit_67 ?_
    refine lv_iload hx hb dX7_transmit_68 (lv_at hl 1 rfl) ?_
    refine r_iast cX hw hR.1.2.1 (25 + j) (by rw [hc]; exact nI_add 25 j) (by omega) (by decide) dX7_transmit_70 (fun H locs hw => ?_)
    have hR := hR.a1 (x := upd F (25 + j) (enF F j size))
    refine lv_aload_n hx hb dX7_transmit_71 rfl (lv_at hl 3 rfl) ?_
    refine r_get cX inX7 hw hR.1.1 rfl 0 (by decide) wF_X7_7 rfl dX7_transmit_72 ?_
    refine lv_bipush (v := 21) hx hb dX7_transmit_75 (by decide) ?_
    refine lv_iload_n hx hb dX7_transmit_77 rfl (lv_at hl 2 rfl) ?_
    refine lv_iadd hx hb dX7_transmit_78 ?_
    refine lv_dup2_11 hx hb dX7_transmit_79 rfl rfl ?_
    refine r_iald (v := F (21 + j)) cX hw hR.1.2.1 (21 + j) (by rw [hc]; exact nI_add 21 j) (by omega) (by decide) (by rw [pk_un (by omega)]) dX7_transmit_80 ?_
    refine lv_iload_n hx hb dX7_transmit_81 rfl (lv_at hl 5 rfl) ?_
    refine lv_iadd hx hb dX7_transmit_82 ?_
    refine r_iast cX hw hR.1.2.1 (21 + j) (by rw [hc]; exact nI_add 21 j) (by omega) (by decide) dX7_transmit_83 (fun H locs hw => ?_)
    have hR := hR.a1 (x := upd (upd F (25 + j) (enF F j size)) (21 + j) ((F (21 + j)) + size))
    refine lv_aload_n hx hb dX7_transmit_84 rfl (lv_at hl 3 rfl) ?_
    refine r_get cX inX7 hw hR.1.1 rfl 0 (by decide) wF_X7_7 rfl dX7_transmit_85 ?_
    refine lv_bipush (v := 29) hx hb dX7_transmit_88 (by decide) ?_
    refine lv_iload_n hx hb dX7_transmit_90 rfl (lv_at hl 2 rfl) ?_
    refine lv_iadd hx hb dX7_transmit_91 ?_
    refine lv_dup2_11 hx hb dX7_transmit_92 rfl rfl ?_
    refine r_iald (v := F (29 + j)) cX hw hR.1.2.1 (29 + j) (by rw [hc]; exact nI_add 29 j) (by omega) (by decide) (by rw [pk_un (by omega), pk_un (by omega)]) dX7_transmit_93 ?_
    refine lv_iconst (v := 1) hx hb dX7_transmit_94 (by decide) ?_
    refine lv_iadd hx hb dX7_transmit_95 ?_
    refine r_iast cX hw hR.1.2.1 (29 + j) (by rw [hc]; exact nI_add 29 j) (by omega) (by decide) dX7_transmit_96 (fun H locs hw => ?_)
    have hR := hR.a1 (x := upd (upd (upd F (25 + j) (enF F j size)) (21 + j) ((F (21 + j)) + size)) (29 + j) ((F (29 + j)) + 1))
    refine lv_aload_n hx hb dX7_transmit_97 rfl (lv_at hl 3 rfl) ?_
    refine r_get cX inX7 hw hR.1.1 rfl 0 (by decide) wF_X7_7 rfl dX7_transmit_98 ?_
    refine lv_bipush (v := 33) hx hb dX7_transmit_101 (by decide) ?_
    refine lv_iload_n hx hb dX7_transmit_103 rfl (lv_at hl 2 rfl) ?_
    refine lv_iadd hx hb dX7_transmit_104 ?_
    refine lv_dup2_11 hx hb dX7_transmit_105 rfl rfl ?_
    refine r_iald (v := F (33 + j)) cX hw hR.1.2.1 (33 + j) (by rw [hc]; exact nI_add 33 j) (by omega) (by decide) (by rw [pk_un (by omega), pk_un (by omega), pk_un (by omega)]) dX7_transmit_106 ?_
    refine lv_iload_n hx hb dX7_transmit_107 rfl (lv_at hl 5 rfl) ?_
    refine lv_iadd hx hb dX7_transmit_108 ?_
    refine r_iast cX hw hR.1.2.1 (33 + j) (by rw [hc]; exact nI_add 33 j) (by omega) (by decide) dX7_transmit_109 (fun H locs hw => ?_)
    have hR := hR.a1 (x := upd (upd (upd (upd F (25 + j) (enF F j size)) (21 + j) ((F (21 + j)) + size)) (29 + j) ((F (29 + j)) + 1)) (33 + j) ((F (33 + j)) + size))
    refine lv_aload_n hx hb dX7_transmit_110 rfl (lv_at hl 3 rfl) ?_
    refine r_get cX inX7 hw hR.1.1 rfl 0 (by decide) wF_X7_7 rfl dX7_transmit_111 ?_
    refine lv_bipush (v := 89) hx hb dX7_transmit_114 (by decide) ?_
    refine lv_iload_n hx hb dX7_transmit_116 rfl (lv_at hl 4 rfl) ?_
    refine lv_iadd hx hb dX7_transmit_117 ?_
    refine lv_dup2_11 hx hb dX7_transmit_118 rfl rfl ?_
    refine r_iald (v := F (89 + k)) cX hw hR.1.2.1 (89 + k) (nI_add 89 k) (by omega) (by decide) (by rw [pk_un (by omega), pk_un (by omega), pk_un (by omega), pk_un (by omega)]) dX7_transmit_119 ?_
    refine lv_aload_n hx hb dX7_transmit_120 rfl (lv_at hl 3 rfl) ?_
    refine r_get cX inX7 hw hR.1.1 rfl 0 (by decide) wF_X7_7 rfl dX7_transmit_121 ?_
    refine lv_bipush (v := 105) hx hb dX7_transmit_124 (by decide) ?_
    refine lv_iload_n hx hb dX7_transmit_126 rfl (lv_at hl 4 rfl) ?_
    refine lv_iadd hx hb dX7_transmit_127 ?_
    refine r_iald (v := F (105 + k)) cX hw hR.1.2.1 (105 + k) (nI_add 105 k) (by omega) (by decide) (by rw [pk_un (by omega), pk_un (by omega), pk_un (by omega), pk_un (by omega)]) dX7_transmit_128 ?_
    refine lv_bipush (v := (-9)) hx hb dX7_transmit_129 (by decide) ?_
    refine lv_icmp_eq (tgt := 151) hx hb dX7_transmit_131 (by decide) (fun c131 => ?_) (fun c131 => ?_)
    · refine lv_iconst (v := 0) hx hb dX7_transmit_151 (by decide) ?_
      refine lv_iadd hx hb dX7_transmit_152 ?_
      refine r_iast cX hw hR.1.2.1 (89 + k) (nI_add 89 k) (by omega) (by decide) dX7_transmit_153 (fun H locs hw => ?_)
      have hR := hR.a1 (x := upd (upd (upd (upd (upd F (25 + j) (enF F j size)) (21 + j) ((F (21 + j)) + size)) (29 + j) ((F (29 + j)) + 1)) (33 + j) ((F (33 + j)) + size)) (89 + k) ((F (89 + k)) + 0))
      refine lv_aload_n hx hb dX7_transmit_154 rfl (lv_at hl 3 rfl) ?_
      refine r_get cX inX7 hw hR.1.1 rfl 0 (by decide) wF_X7_7 rfl dX7_transmit_155 ?_
      refine lv_bipush (v := 105) hx hb dX7_transmit_158 (by decide) ?_
      refine lv_iload_n hx hb dX7_transmit_160 rfl (lv_at hl 4 rfl) ?_
      refine lv_iadd hx hb dX7_transmit_161 ?_
      refine lv_iload_n hx hb dX7_transmit_162 rfl (lv_at hl 2 rfl) ?_
      refine r_iast cX hw hR.1.2.1 (105 + k) (nI_add 105 k) (by omega) (by decide) dX7_transmit_163 (fun H locs hw => ?_)
      have hR := hR.a1 (x := upd (upd (upd (upd (upd (upd F (25 + j) (enF F j size)) (21 + j) ((F (21 + j)) + size)) (29 + j) ((F (29 + j)) + 1)) (33 + j) ((F (33 + j)) + size)) (89 + k) ((F (89 + k)) + 0)) (105 + k) (chF f k))
      refine lv_aload_n hx hb dX7_transmit_164 rfl (lv_at hl 3 rfl) ?_
      refine r_get cX inX7 hw hR.1.1 rfl 0 (by decide) wF_X7_7 rfl dX7_transmit_165 ?_
      refine lv_bipush (v := 121) hx hb dX7_transmit_168 (by decide) ?_
      refine lv_iload_n hx hb dX7_transmit_170 rfl (lv_at hl 4 rfl) ?_
      refine lv_iadd hx hb dX7_transmit_171 ?_
      refine lv_dup2_11 hx hb dX7_transmit_172 rfl rfl ?_
      refine r_iald (v := F (121 + k)) cX hw hR.1.2.1 (121 + k) (nI_add 121 k) (by omega) (by decide) (by rw [pk_un (by omega), pk_un (by omega), pk_un (by omega), pk_un (by omega), pk_un (by omega), pk_un (by omega)]) dX7_transmit_173 ?_
      refine lv_iload hx hb dX7_transmit_174 (lv_at hl 0 rfl) ?_
      refine lv_aload_n hx hb dX7_transmit_176 rfl (lv_at hl 3 rfl) ?_
      refine r_get cX inX7 hw hR.1.1 rfl 0 (by decide) wF_X7_7 rfl dX7_transmit_177 ?_
      refine lv_sipush (v := 137) hx hb dX7_transmit_180 (by decide) ?_
      refine lv_iload_n hx hb dX7_transmit_183 rfl (lv_at hl 4 rfl) ?_
      refine lv_iadd hx hb dX7_transmit_184 ?_
      refine r_iald (v := F (137 + k)) cX hw hR.1.2.1 (137 + k) (nI_add 137 k) (by omega) (by decide) (by rw [pk_un (by omega), pk_un (by omega), pk_un (by omega), pk_un (by omega), pk_un (by omega), pk_un (by omega)]) dX7_transmit_185 ?_
      refine lv_icmp_ge (tgt := 193) hx hb dX7_transmit_186 (by decide) (fun c186 => ?_) (fun c186 => ?_)
      · refine lv_iconst (v := 0) hx hb dX7_transmit_193 (by decide) ?_
        refine lv_iadd hx hb dX7_transmit_194 ?_
        refine r_iast cX hw hR.1.2.1 (121 + k) (nI_add 121 k) (by omega) (by decide) dX7_transmit_195 (fun H locs hw => ?_)
        have hR := hR.a1 (x := upd (upd (upd (upd (upd (upd (upd F (25 + j) (enF F j size)) (21 + j) ((F (21 + j)) + size)) (29 + j) ((F (29 + j)) + 1)) (33 + j) ((F (33 + j)) + size)) (89 + k) ((F (89 + k)) + 0)) (105 + k) (chF f k)) (121 + k) ((F (121 + k)) + 0))
        refine lv_aload_n hx hb dX7_transmit_196 rfl (lv_at hl 3 rfl) ?_
        refine r_get cX inX7 hw hR.1.1 rfl 0 (by decide) wF_X7_7 rfl dX7_transmit_197 ?_
        refine lv_sipush (v := 137) hx hb dX7_transmit_200 (by decide) ?_
        refine lv_iload_n hx hb dX7_transmit_203 rfl (lv_at hl 4 rfl) ?_
        refine lv_iadd hx hb dX7_transmit_204 ?_
        refine lv_iload hx hb dX7_transmit_205 (lv_at hl 0 rfl) ?_
        refine lv_aload_n hx hb dX7_transmit_207 rfl (lv_at hl 3 rfl) ?_
        refine r_get cX inX7 hw hR.1.1 rfl 0 (by decide) wF_X7_7 rfl dX7_transmit_208 ?_
        refine lv_sipush (v := 137) hx hb dX7_transmit_211 (by decide) ?_
        refine lv_iload_n hx hb dX7_transmit_214 rfl (lv_at hl 4 rfl) ?_
        refine lv_iadd hx hb dX7_transmit_215 ?_
        refine r_iald (v := F (137 + k)) cX hw hR.1.2.1 (137 + k) (nI_add 137 k) (by omega) (by decide) (by rw [pk_un (by omega), pk_un (by omega), pk_un (by omega), pk_un (by omega), pk_un (by omega), pk_un (by omega), pk_un (by omega)]) dX7_transmit_216 ?_
        refine lv_icmp_le (tgt := 225) hx hb dX7_transmit_217 (by decide) (fun c217 => ?_) (fun c217 => ?_)
        · refine lv_aload_n hx hb dX7_transmit_225 rfl (lv_at hl 3 rfl) ?_
          refine r_get cX inX7 hw hR.1.1 rfl 0 (by decide) wF_X7_7 rfl dX7_transmit_226 ?_
          refine lv_sipush (v := 137) hx hb dX7_transmit_229 (by decide) ?_
          refine lv_iload_n hx hb dX7_transmit_232 rfl (lv_at hl 4 rfl) ?_
          refine lv_iadd hx hb dX7_transmit_233 ?_
          refine r_iald (v := F (137 + k)) cX hw hR.1.2.1 (137 + k) (nI_add 137 k) (by omega) (by decide) (by rw [pk_un (by omega), pk_un (by omega), pk_un (by omega), pk_un (by omega), pk_un (by omega), pk_un (by omega), pk_un (by omega)]) dX7_transmit_234 ?_
          refine r_iast cX hw hR.1.2.1 (137 + k) (nI_add 137 k) (by omega) (by decide) dX7_transmit_235 (fun H locs hw => ?_)
          have hR := hR.a1 (x := upd (upd (upd (upd (upd (upd (upd (upd F (25 + j) (enF F j size)) (21 + j) ((F (21 + j)) + size)) (29 + j) ((F (29 + j)) + 1)) (33 + j) ((F (33 + j)) + size)) (89 + k) ((F (89 + k)) + 0)) (105 + k) (chF f k)) (121 + k) ((F (121 + k)) + 0)) (137 + k) (F (137 + k)))
          refine lv_iload_n hx hb dX7_transmit_236 rfl (lv_at hl 2 rfl) ?_
          exact r_iret cX hr hlocks hw (by rw [hs]; unfold trF; rw [hcl, if_neg (if01e c17)]; refine ⟨rfl, hR.re ?_⟩; unfold dvF; rw [xmF_o F j (89 + k) _ _ hj (by omega), xmF_o F j (105 + k) _ _ hj (by omega), xmF_o F j (121 + k) _ _ hj (by omega), xmF_o F j (137 + k) _ _ hj (by omega), if_neg (fun h => h.1 c131), if_neg (Int32.not_lt.mpr c186), if_neg (Int32.not_lt.mpr c217)]; rfl) dX7_transmit_237
        · refine lv_iload hx hb dX7_transmit_220 (lv_at hl 0 rfl) ?_
          refine lv_goto (tgt := 235) hx hb dX7_transmit_222 (by decide) ?_
          refine r_iast cX hw hR.1.2.1 (137 + k) (nI_add 137 k) (by omega) (by decide) dX7_transmit_235 (fun H locs hw => ?_)
          have hR := hR.a1 (x := upd (upd (upd (upd (upd (upd (upd (upd F (25 + j) (enF F j size)) (21 + j) ((F (21 + j)) + size)) (29 + j) ((F (29 + j)) + 1)) (33 + j) ((F (33 + j)) + size)) (89 + k) ((F (89 + k)) + 0)) (105 + k) (chF f k)) (121 + k) ((F (121 + k)) + 0)) (137 + k) ((enF F j size) + (F (9 + j))))
          refine lv_iload_n hx hb dX7_transmit_236 rfl (lv_at hl 2 rfl) ?_
          exact r_iret cX hr hlocks hw (by rw [hs]; unfold trF; rw [hcl, if_neg (if01e c17)]; refine ⟨rfl, hR.re ?_⟩; unfold dvF; rw [xmF_o F j (89 + k) _ _ hj (by omega), xmF_o F j (105 + k) _ _ hj (by omega), xmF_o F j (121 + k) _ _ hj (by omega), xmF_o F j (137 + k) _ _ hj (by omega), if_neg (fun h => h.1 c131), if_neg (Int32.not_lt.mpr c186), if_pos (Int32.not_le.mp c217)]; rfl) dX7_transmit_237
      · refine lv_iconst (v := 1) hx hb dX7_transmit_189 (by decide) ?_
        refine lv_goto (tgt := 194) hx hb dX7_transmit_190 (by decide) ?_
        refine lv_iadd hx hb dX7_transmit_194 ?_
        refine r_iast cX hw hR.1.2.1 (121 + k) (nI_add 121 k) (by omega) (by decide) dX7_transmit_195 (fun H locs hw => ?_)
        have hR := hR.a1 (x := upd (upd (upd (upd (upd (upd (upd F (25 + j) (enF F j size)) (21 + j) ((F (21 + j)) + size)) (29 + j) ((F (29 + j)) + 1)) (33 + j) ((F (33 + j)) + size)) (89 + k) ((F (89 + k)) + 0)) (105 + k) (chF f k)) (121 + k) ((F (121 + k)) + 1))
        refine lv_aload_n hx hb dX7_transmit_196 rfl (lv_at hl 3 rfl) ?_
        refine r_get cX inX7 hw hR.1.1 rfl 0 (by decide) wF_X7_7 rfl dX7_transmit_197 ?_
        refine lv_sipush (v := 137) hx hb dX7_transmit_200 (by decide) ?_
        refine lv_iload_n hx hb dX7_transmit_203 rfl (lv_at hl 4 rfl) ?_
        refine lv_iadd hx hb dX7_transmit_204 ?_
        refine lv_iload hx hb dX7_transmit_205 (lv_at hl 0 rfl) ?_
        refine lv_aload_n hx hb dX7_transmit_207 rfl (lv_at hl 3 rfl) ?_
        refine r_get cX inX7 hw hR.1.1 rfl 0 (by decide) wF_X7_7 rfl dX7_transmit_208 ?_
        refine lv_sipush (v := 137) hx hb dX7_transmit_211 (by decide) ?_
        refine lv_iload_n hx hb dX7_transmit_214 rfl (lv_at hl 4 rfl) ?_
        refine lv_iadd hx hb dX7_transmit_215 ?_
        refine r_iald (v := F (137 + k)) cX hw hR.1.2.1 (137 + k) (nI_add 137 k) (by omega) (by decide) (by rw [pk_un (by omega), pk_un (by omega), pk_un (by omega), pk_un (by omega), pk_un (by omega), pk_un (by omega), pk_un (by omega)]) dX7_transmit_216 ?_
        refine lv_icmp_le (tgt := 225) hx hb dX7_transmit_217 (by decide) (fun c217 => ?_) (fun c217 => ?_)
        · refine lv_aload_n hx hb dX7_transmit_225 rfl (lv_at hl 3 rfl) ?_
          refine r_get cX inX7 hw hR.1.1 rfl 0 (by decide) wF_X7_7 rfl dX7_transmit_226 ?_
          refine lv_sipush (v := 137) hx hb dX7_transmit_229 (by decide) ?_
          refine lv_iload_n hx hb dX7_transmit_232 rfl (lv_at hl 4 rfl) ?_
          refine lv_iadd hx hb dX7_transmit_233 ?_
          refine r_iald (v := F (137 + k)) cX hw hR.1.2.1 (137 + k) (nI_add 137 k) (by omega) (by decide) (by rw [pk_un (by omega), pk_un (by omega), pk_un (by omega), pk_un (by omega), pk_un (by omega), pk_un (by omega), pk_un (by omega)]) dX7_transmit_234 ?_
          refine r_iast cX hw hR.1.2.1 (137 + k) (nI_add 137 k) (by omega) (by decide) dX7_transmit_235 (fun H locs hw => ?_)
          have hR := hR.a1 (x := upd (upd (upd (upd (upd (upd (upd (upd F (25 + j) (enF F j size)) (21 + j) ((F (21 + j)) + size)) (29 + j) ((F (29 + j)) + 1)) (33 + j) ((F (33 + j)) + size)) (89 + k) ((F (89 + k)) + 0)) (105 + k) (chF f k)) (121 + k) ((F (121 + k)) + 1)) (137 + k) (F (137 + k)))
          refine lv_iload_n hx hb dX7_transmit_236 rfl (lv_at hl 2 rfl) ?_
          exact r_iret cX hr hlocks hw (by rw [hs]; unfold trF; rw [hcl, if_neg (if01e c17)]; refine ⟨rfl, hR.re ?_⟩; unfold dvF; rw [xmF_o F j (89 + k) _ _ hj (by omega), xmF_o F j (105 + k) _ _ hj (by omega), xmF_o F j (121 + k) _ _ hj (by omega), xmF_o F j (137 + k) _ _ hj (by omega), if_neg (fun h => h.1 c131), if_pos (Int32.not_le.mp c186), if_neg (Int32.not_lt.mpr c217)]; rfl) dX7_transmit_237
        · refine lv_iload hx hb dX7_transmit_220 (lv_at hl 0 rfl) ?_
          refine lv_goto (tgt := 235) hx hb dX7_transmit_222 (by decide) ?_
          refine r_iast cX hw hR.1.2.1 (137 + k) (nI_add 137 k) (by omega) (by decide) dX7_transmit_235 (fun H locs hw => ?_)
          have hR := hR.a1 (x := upd (upd (upd (upd (upd (upd (upd (upd F (25 + j) (enF F j size)) (21 + j) ((F (21 + j)) + size)) (29 + j) ((F (29 + j)) + 1)) (33 + j) ((F (33 + j)) + size)) (89 + k) ((F (89 + k)) + 0)) (105 + k) (chF f k)) (121 + k) ((F (121 + k)) + 1)) (137 + k) ((enF F j size) + (F (9 + j))))
          refine lv_iload_n hx hb dX7_transmit_236 rfl (lv_at hl 2 rfl) ?_
          exact r_iret cX hr hlocks hw (by rw [hs]; unfold trF; rw [hcl, if_neg (if01e c17)]; refine ⟨rfl, hR.re ?_⟩; unfold dvF; rw [xmF_o F j (89 + k) _ _ hj (by omega), xmF_o F j (105 + k) _ _ hj (by omega), xmF_o F j (121 + k) _ _ hj (by omega), xmF_o F j (137 + k) _ _ hj (by omega), if_neg (fun h => h.1 c131), if_pos (Int32.not_le.mp c186), if_pos (Int32.not_le.mp c217)]; rfl) dX7_transmit_237
    · refine lv_aload_n hx hb dX7_transmit_134 rfl (lv_at hl 3 rfl) ?_
      refine r_get cX inX7 hw hR.1.1 rfl 0 (by decide) wF_X7_7 rfl dX7_transmit_135 ?_
      refine lv_bipush (v := 105) hx hb dX7_transmit_138 (by decide) ?_
      refine lv_iload_n hx hb dX7_transmit_140 rfl (lv_at hl 4 rfl) ?_
      refine lv_iadd hx hb dX7_transmit_141 ?_
      refine r_iald (v := F (105 + k)) cX hw hR.1.2.1 (105 + k) (nI_add 105 k) (by omega) (by decide) (by rw [pk_un (by omega), pk_un (by omega), pk_un (by omega), pk_un (by omega)]) dX7_transmit_142 ?_
      refine lv_iload_n hx hb dX7_transmit_143 rfl (lv_at hl 2 rfl) ?_
      refine lv_icmp_eq (tgt := 151) hx hb dX7_transmit_144 (by decide) (fun c144 => ?_) (fun c144 => ?_)
      · refine lv_iconst (v := 0) hx hb dX7_transmit_151 (by decide) ?_
        refine lv_iadd hx hb dX7_transmit_152 ?_
        refine r_iast cX hw hR.1.2.1 (89 + k) (nI_add 89 k) (by omega) (by decide) dX7_transmit_153 (fun H locs hw => ?_)
        have hR := hR.a1 (x := upd (upd (upd (upd (upd F (25 + j) (enF F j size)) (21 + j) ((F (21 + j)) + size)) (29 + j) ((F (29 + j)) + 1)) (33 + j) ((F (33 + j)) + size)) (89 + k) ((F (89 + k)) + 0))
        refine lv_aload_n hx hb dX7_transmit_154 rfl (lv_at hl 3 rfl) ?_
        refine r_get cX inX7 hw hR.1.1 rfl 0 (by decide) wF_X7_7 rfl dX7_transmit_155 ?_
        refine lv_bipush (v := 105) hx hb dX7_transmit_158 (by decide) ?_
        refine lv_iload_n hx hb dX7_transmit_160 rfl (lv_at hl 4 rfl) ?_
        refine lv_iadd hx hb dX7_transmit_161 ?_
        refine lv_iload_n hx hb dX7_transmit_162 rfl (lv_at hl 2 rfl) ?_
        refine r_iast cX hw hR.1.2.1 (105 + k) (nI_add 105 k) (by omega) (by decide) dX7_transmit_163 (fun H locs hw => ?_)
        have hR := hR.a1 (x := upd (upd (upd (upd (upd (upd F (25 + j) (enF F j size)) (21 + j) ((F (21 + j)) + size)) (29 + j) ((F (29 + j)) + 1)) (33 + j) ((F (33 + j)) + size)) (89 + k) ((F (89 + k)) + 0)) (105 + k) (chF f k))
        refine lv_aload_n hx hb dX7_transmit_164 rfl (lv_at hl 3 rfl) ?_
        refine r_get cX inX7 hw hR.1.1 rfl 0 (by decide) wF_X7_7 rfl dX7_transmit_165 ?_
        refine lv_bipush (v := 121) hx hb dX7_transmit_168 (by decide) ?_
        refine lv_iload_n hx hb dX7_transmit_170 rfl (lv_at hl 4 rfl) ?_
        refine lv_iadd hx hb dX7_transmit_171 ?_
        refine lv_dup2_11 hx hb dX7_transmit_172 rfl rfl ?_
        refine r_iald (v := F (121 + k)) cX hw hR.1.2.1 (121 + k) (nI_add 121 k) (by omega) (by decide) (by rw [pk_un (by omega), pk_un (by omega), pk_un (by omega), pk_un (by omega), pk_un (by omega), pk_un (by omega)]) dX7_transmit_173 ?_
        refine lv_iload hx hb dX7_transmit_174 (lv_at hl 0 rfl) ?_
        refine lv_aload_n hx hb dX7_transmit_176 rfl (lv_at hl 3 rfl) ?_
        refine r_get cX inX7 hw hR.1.1 rfl 0 (by decide) wF_X7_7 rfl dX7_transmit_177 ?_
        refine lv_sipush (v := 137) hx hb dX7_transmit_180 (by decide) ?_
        refine lv_iload_n hx hb dX7_transmit_183 rfl (lv_at hl 4 rfl) ?_
        refine lv_iadd hx hb dX7_transmit_184 ?_
        refine r_iald (v := F (137 + k)) cX hw hR.1.2.1 (137 + k) (nI_add 137 k) (by omega) (by decide) (by rw [pk_un (by omega), pk_un (by omega), pk_un (by omega), pk_un (by omega), pk_un (by omega), pk_un (by omega)]) dX7_transmit_185 ?_
        refine lv_icmp_ge (tgt := 193) hx hb dX7_transmit_186 (by decide) (fun c186 => ?_) (fun c186 => ?_)
        · refine lv_iconst (v := 0) hx hb dX7_transmit_193 (by decide) ?_
          refine lv_iadd hx hb dX7_transmit_194 ?_
          refine r_iast cX hw hR.1.2.1 (121 + k) (nI_add 121 k) (by omega) (by decide) dX7_transmit_195 (fun H locs hw => ?_)
          have hR := hR.a1 (x := upd (upd (upd (upd (upd (upd (upd F (25 + j) (enF F j size)) (21 + j) ((F (21 + j)) + size)) (29 + j) ((F (29 + j)) + 1)) (33 + j) ((F (33 + j)) + size)) (89 + k) ((F (89 + k)) + 0)) (105 + k) (chF f k)) (121 + k) ((F (121 + k)) + 0))
          refine lv_aload_n hx hb dX7_transmit_196 rfl (lv_at hl 3 rfl) ?_
          refine r_get cX inX7 hw hR.1.1 rfl 0 (by decide) wF_X7_7 rfl dX7_transmit_197 ?_
          refine lv_sipush (v := 137) hx hb dX7_transmit_200 (by decide) ?_
          refine lv_iload_n hx hb dX7_transmit_203 rfl (lv_at hl 4 rfl) ?_
          refine lv_iadd hx hb dX7_transmit_204 ?_
          refine lv_iload hx hb dX7_transmit_205 (lv_at hl 0 rfl) ?_
          refine lv_aload_n hx hb dX7_transmit_207 rfl (lv_at hl 3 rfl) ?_
          refine r_get cX inX7 hw hR.1.1 rfl 0 (by decide) wF_X7_7 rfl dX7_transmit_208 ?_
          refine lv_sipush (v := 137) hx hb dX7_transmit_211 (by decide) ?_
          refine lv_iload_n hx hb dX7_transmit_214 rfl (lv_at hl 4 rfl) ?_
          refine lv_iadd hx hb dX7_transmit_215 ?_
          refine r_iald (v := F (137 + k)) cX hw hR.1.2.1 (137 + k) (nI_add 137 k) (by omega) (by decide) (by rw [pk_un (by omega), pk_un (by omega), pk_un (by omega), pk_un (by omega), pk_un (by omega), pk_un (by omega), pk_un (by omega)]) dX7_transmit_216 ?_
          refine lv_icmp_le (tgt := 225) hx hb dX7_transmit_217 (by decide) (fun c217 => ?_) (fun c217 => ?_)
          · refine lv_aload_n hx hb dX7_transmit_225 rfl (lv_at hl 3 rfl) ?_
            refine r_get cX inX7 hw hR.1.1 rfl 0 (by decide) wF_X7_7 rfl dX7_transmit_226 ?_
            refine lv_sipush (v := 137) hx hb dX7_transmit_229 (by decide) ?_
            refine lv_iload_n hx hb dX7_transmit_232 rfl (lv_at hl 4 rfl) ?_
            refine lv_iadd hx hb dX7_transmit_233 ?_
            refine r_iald (v := F (137 + k)) cX hw hR.1.2.1 (137 + k) (nI_add 137 k) (by omega) (by decide) (by rw [pk_un (by omega), pk_un (by omega), pk_un (by omega), pk_un (by omega), pk_un (by omega), pk_un (by omega), pk_un (by omega)]) dX7_transmit_234 ?_
            refine r_iast cX hw hR.1.2.1 (137 + k) (nI_add 137 k) (by omega) (by decide) dX7_transmit_235 (fun H locs hw => ?_)
            have hR := hR.a1 (x := upd (upd (upd (upd (upd (upd (upd (upd F (25 + j) (enF F j size)) (21 + j) ((F (21 + j)) + size)) (29 + j) ((F (29 + j)) + 1)) (33 + j) ((F (33 + j)) + size)) (89 + k) ((F (89 + k)) + 0)) (105 + k) (chF f k)) (121 + k) ((F (121 + k)) + 0)) (137 + k) (F (137 + k)))
            refine lv_iload_n hx hb dX7_transmit_236 rfl (lv_at hl 2 rfl) ?_
            exact r_iret cX hr hlocks hw (by rw [hs]; unfold trF; rw [hcl, if_neg (if01e c17)]; refine ⟨rfl, hR.re ?_⟩; unfold dvF; rw [xmF_o F j (89 + k) _ _ hj (by omega), xmF_o F j (105 + k) _ _ hj (by omega), xmF_o F j (121 + k) _ _ hj (by omega), xmF_o F j (137 + k) _ _ hj (by omega), if_neg (fun h => h.2 c144), if_neg (Int32.not_lt.mpr c186), if_neg (Int32.not_lt.mpr c217)]; rfl) dX7_transmit_237
          · refine lv_iload hx hb dX7_transmit_220 (lv_at hl 0 rfl) ?_
            refine lv_goto (tgt := 235) hx hb dX7_transmit_222 (by decide) ?_
            refine r_iast cX hw hR.1.2.1 (137 + k) (nI_add 137 k) (by omega) (by decide) dX7_transmit_235 (fun H locs hw => ?_)
            have hR := hR.a1 (x := upd (upd (upd (upd (upd (upd (upd (upd F (25 + j) (enF F j size)) (21 + j) ((F (21 + j)) + size)) (29 + j) ((F (29 + j)) + 1)) (33 + j) ((F (33 + j)) + size)) (89 + k) ((F (89 + k)) + 0)) (105 + k) (chF f k)) (121 + k) ((F (121 + k)) + 0)) (137 + k) ((enF F j size) + (F (9 + j))))
            refine lv_iload_n hx hb dX7_transmit_236 rfl (lv_at hl 2 rfl) ?_
            exact r_iret cX hr hlocks hw (by rw [hs]; unfold trF; rw [hcl, if_neg (if01e c17)]; refine ⟨rfl, hR.re ?_⟩; unfold dvF; rw [xmF_o F j (89 + k) _ _ hj (by omega), xmF_o F j (105 + k) _ _ hj (by omega), xmF_o F j (121 + k) _ _ hj (by omega), xmF_o F j (137 + k) _ _ hj (by omega), if_neg (fun h => h.2 c144), if_neg (Int32.not_lt.mpr c186), if_pos (Int32.not_le.mp c217)]; rfl) dX7_transmit_237
        · refine lv_iconst (v := 1) hx hb dX7_transmit_189 (by decide) ?_
          refine lv_goto (tgt := 194) hx hb dX7_transmit_190 (by decide) ?_
          refine lv_iadd hx hb dX7_transmit_194 ?_
          refine r_iast cX hw hR.1.2.1 (121 + k) (nI_add 121 k) (by omega) (by decide) dX7_transmit_195 (fun H locs hw => ?_)
          have hR := hR.a1 (x := upd (upd (upd (upd (upd (upd (upd F (25 + j) (enF F j size)) (21 + j) ((F (21 + j)) + size)) (29 + j) ((F (29 + j)) + 1)) (33 + j) ((F (33 + j)) + size)) (89 + k) ((F (89 + k)) + 0)) (105 + k) (chF f k)) (121 + k) ((F (121 + k)) + 1))
          refine lv_aload_n hx hb dX7_transmit_196 rfl (lv_at hl 3 rfl) ?_
          refine r_get cX inX7 hw hR.1.1 rfl 0 (by decide) wF_X7_7 rfl dX7_transmit_197 ?_
          refine lv_sipush (v := 137) hx hb dX7_transmit_200 (by decide) ?_
          refine lv_iload_n hx hb dX7_transmit_203 rfl (lv_at hl 4 rfl) ?_
          refine lv_iadd hx hb dX7_transmit_204 ?_
          refine lv_iload hx hb dX7_transmit_205 (lv_at hl 0 rfl) ?_
          refine lv_aload_n hx hb dX7_transmit_207 rfl (lv_at hl 3 rfl) ?_
          refine r_get cX inX7 hw hR.1.1 rfl 0 (by decide) wF_X7_7 rfl dX7_transmit_208 ?_
          refine lv_sipush (v := 137) hx hb dX7_transmit_211 (by decide) ?_
          refine lv_iload_n hx hb dX7_transmit_214 rfl (lv_at hl 4 rfl) ?_
          refine lv_iadd hx hb dX7_transmit_215 ?_
          refine r_iald (v := F (137 + k)) cX hw hR.1.2.1 (137 + k) (nI_add 137 k) (by omega) (by decide) (by rw [pk_un (by omega), pk_un (by omega), pk_un (by omega), pk_un (by omega), pk_un (by omega), pk_un (by omega), pk_un (by omega)]) dX7_transmit_216 ?_
          refine lv_icmp_le (tgt := 225) hx hb dX7_transmit_217 (by decide) (fun c217 => ?_) (fun c217 => ?_)
          · refine lv_aload_n hx hb dX7_transmit_225 rfl (lv_at hl 3 rfl) ?_
            refine r_get cX inX7 hw hR.1.1 rfl 0 (by decide) wF_X7_7 rfl dX7_transmit_226 ?_
            refine lv_sipush (v := 137) hx hb dX7_transmit_229 (by decide) ?_
            refine lv_iload_n hx hb dX7_transmit_232 rfl (lv_at hl 4 rfl) ?_
            refine lv_iadd hx hb dX7_transmit_233 ?_
            refine r_iald (v := F (137 + k)) cX hw hR.1.2.1 (137 + k) (nI_add 137 k) (by omega) (by decide) (by rw [pk_un (by omega), pk_un (by omega), pk_un (by omega), pk_un (by omega), pk_un (by omega), pk_un (by omega), pk_un (by omega)]) dX7_transmit_234 ?_
            refine r_iast cX hw hR.1.2.1 (137 + k) (nI_add 137 k) (by omega) (by decide) dX7_transmit_235 (fun H locs hw => ?_)
            have hR := hR.a1 (x := upd (upd (upd (upd (upd (upd (upd (upd F (25 + j) (enF F j size)) (21 + j) ((F (21 + j)) + size)) (29 + j) ((F (29 + j)) + 1)) (33 + j) ((F (33 + j)) + size)) (89 + k) ((F (89 + k)) + 0)) (105 + k) (chF f k)) (121 + k) ((F (121 + k)) + 1)) (137 + k) (F (137 + k)))
            refine lv_iload_n hx hb dX7_transmit_236 rfl (lv_at hl 2 rfl) ?_
            exact r_iret cX hr hlocks hw (by rw [hs]; unfold trF; rw [hcl, if_neg (if01e c17)]; refine ⟨rfl, hR.re ?_⟩; unfold dvF; rw [xmF_o F j (89 + k) _ _ hj (by omega), xmF_o F j (105 + k) _ _ hj (by omega), xmF_o F j (121 + k) _ _ hj (by omega), xmF_o F j (137 + k) _ _ hj (by omega), if_neg (fun h => h.2 c144), if_pos (Int32.not_le.mp c186), if_neg (Int32.not_lt.mpr c217)]; rfl) dX7_transmit_237
          · refine lv_iload hx hb dX7_transmit_220 (lv_at hl 0 rfl) ?_
            refine lv_goto (tgt := 235) hx hb dX7_transmit_222 (by decide) ?_
            refine r_iast cX hw hR.1.2.1 (137 + k) (nI_add 137 k) (by omega) (by decide) dX7_transmit_235 (fun H locs hw => ?_)
            have hR := hR.a1 (x := upd (upd (upd (upd (upd (upd (upd (upd F (25 + j) (enF F j size)) (21 + j) ((F (21 + j)) + size)) (29 + j) ((F (29 + j)) + 1)) (33 + j) ((F (33 + j)) + size)) (89 + k) ((F (89 + k)) + 0)) (105 + k) (chF f k)) (121 + k) ((F (121 + k)) + 1)) (137 + k) ((enF F j size) + (F (9 + j))))
            refine lv_iload_n hx hb dX7_transmit_236 rfl (lv_at hl 2 rfl) ?_
            exact r_iret cX hr hlocks hw (by rw [hs]; unfold trF; rw [hcl, if_neg (if01e c17)]; refine ⟨rfl, hR.re ?_⟩; unfold dvF; rw [xmF_o F j (89 + k) _ _ hj (by omega), xmF_o F j (105 + k) _ _ hj (by omega), xmF_o F j (121 + k) _ _ hj (by omega), xmF_o F j (137 + k) _ _ hj (by omega), if_neg (fun h => h.2 c144), if_pos (Int32.not_le.mp c186), if_pos (Int32.not_le.mp c217)]; rfl) dX7_transmit_237
      · refine lv_iconst (v := 1) hx hb dX7_transmit_147 (by decide) ?_
        refine lv_goto (tgt := 152) hx hb dX7_transmit_148 (by decide) ?_
        refine lv_iadd hx hb dX7_transmit_152 ?_
        refine r_iast cX hw hR.1.2.1 (89 + k) (nI_add 89 k) (by omega) (by decide) dX7_transmit_153 (fun H locs hw => ?_)
        have hR := hR.a1 (x := upd (upd (upd (upd (upd F (25 + j) (enF F j size)) (21 + j) ((F (21 + j)) + size)) (29 + j) ((F (29 + j)) + 1)) (33 + j) ((F (33 + j)) + size)) (89 + k) ((F (89 + k)) + 1))
        refine lv_aload_n hx hb dX7_transmit_154 rfl (lv_at hl 3 rfl) ?_
        refine r_get cX inX7 hw hR.1.1 rfl 0 (by decide) wF_X7_7 rfl dX7_transmit_155 ?_
        refine lv_bipush (v := 105) hx hb dX7_transmit_158 (by decide) ?_
        refine lv_iload_n hx hb dX7_transmit_160 rfl (lv_at hl 4 rfl) ?_
        refine lv_iadd hx hb dX7_transmit_161 ?_
        refine lv_iload_n hx hb dX7_transmit_162 rfl (lv_at hl 2 rfl) ?_
        refine r_iast cX hw hR.1.2.1 (105 + k) (nI_add 105 k) (by omega) (by decide) dX7_transmit_163 (fun H locs hw => ?_)
        have hR := hR.a1 (x := upd (upd (upd (upd (upd (upd F (25 + j) (enF F j size)) (21 + j) ((F (21 + j)) + size)) (29 + j) ((F (29 + j)) + 1)) (33 + j) ((F (33 + j)) + size)) (89 + k) ((F (89 + k)) + 1)) (105 + k) (chF f k))
        refine lv_aload_n hx hb dX7_transmit_164 rfl (lv_at hl 3 rfl) ?_
        refine r_get cX inX7 hw hR.1.1 rfl 0 (by decide) wF_X7_7 rfl dX7_transmit_165 ?_
        refine lv_bipush (v := 121) hx hb dX7_transmit_168 (by decide) ?_
        refine lv_iload_n hx hb dX7_transmit_170 rfl (lv_at hl 4 rfl) ?_
        refine lv_iadd hx hb dX7_transmit_171 ?_
        refine lv_dup2_11 hx hb dX7_transmit_172 rfl rfl ?_
        refine r_iald (v := F (121 + k)) cX hw hR.1.2.1 (121 + k) (nI_add 121 k) (by omega) (by decide) (by rw [pk_un (by omega), pk_un (by omega), pk_un (by omega), pk_un (by omega), pk_un (by omega), pk_un (by omega)]) dX7_transmit_173 ?_
        refine lv_iload hx hb dX7_transmit_174 (lv_at hl 0 rfl) ?_
        refine lv_aload_n hx hb dX7_transmit_176 rfl (lv_at hl 3 rfl) ?_
        refine r_get cX inX7 hw hR.1.1 rfl 0 (by decide) wF_X7_7 rfl dX7_transmit_177 ?_
        refine lv_sipush (v := 137) hx hb dX7_transmit_180 (by decide) ?_
        refine lv_iload_n hx hb dX7_transmit_183 rfl (lv_at hl 4 rfl) ?_
        refine lv_iadd hx hb dX7_transmit_184 ?_
        refine r_iald (v := F (137 + k)) cX hw hR.1.2.1 (137 + k) (nI_add 137 k) (by omega) (by decide) (by rw [pk_un (by omega), pk_un (by omega), pk_un (by omega), pk_un (by omega), pk_un (by omega), pk_un (by omega)]) dX7_transmit_185 ?_
        refine lv_icmp_ge (tgt := 193) hx hb dX7_transmit_186 (by decide) (fun c186 => ?_) (fun c186 => ?_)
        · refine lv_iconst (v := 0) hx hb dX7_transmit_193 (by decide) ?_
          refine lv_iadd hx hb dX7_transmit_194 ?_
          refine r_iast cX hw hR.1.2.1 (121 + k) (nI_add 121 k) (by omega) (by decide) dX7_transmit_195 (fun H locs hw => ?_)
          have hR := hR.a1 (x := upd (upd (upd (upd (upd (upd (upd F (25 + j) (enF F j size)) (21 + j) ((F (21 + j)) + size)) (29 + j) ((F (29 + j)) + 1)) (33 + j) ((F (33 + j)) + size)) (89 + k) ((F (89 + k)) + 1)) (105 + k) (chF f k)) (121 + k) ((F (121 + k)) + 0))
          refine lv_aload_n hx hb dX7_transmit_196 rfl (lv_at hl 3 rfl) ?_
          refine r_get cX inX7 hw hR.1.1 rfl 0 (by decide) wF_X7_7 rfl dX7_transmit_197 ?_
          refine lv_sipush (v := 137) hx hb dX7_transmit_200 (by decide) ?_
          refine lv_iload_n hx hb dX7_transmit_203 rfl (lv_at hl 4 rfl) ?_
          refine lv_iadd hx hb dX7_transmit_204 ?_
          refine lv_iload hx hb dX7_transmit_205 (lv_at hl 0 rfl) ?_
          refine lv_aload_n hx hb dX7_transmit_207 rfl (lv_at hl 3 rfl) ?_
          refine r_get cX inX7 hw hR.1.1 rfl 0 (by decide) wF_X7_7 rfl dX7_transmit_208 ?_
          refine lv_sipush (v := 137) hx hb dX7_transmit_211 (by decide) ?_
          refine lv_iload_n hx hb dX7_transmit_214 rfl (lv_at hl 4 rfl) ?_
          refine lv_iadd hx hb dX7_transmit_215 ?_
          refine r_iald (v := F (137 + k)) cX hw hR.1.2.1 (137 + k) (nI_add 137 k) (by omega) (by decide) (by rw [pk_un (by omega), pk_un (by omega), pk_un (by omega), pk_un (by omega), pk_un (by omega), pk_un (by omega), pk_un (by omega)]) dX7_transmit_216 ?_
          refine lv_icmp_le (tgt := 225) hx hb dX7_transmit_217 (by decide) (fun c217 => ?_) (fun c217 => ?_)
          · refine lv_aload_n hx hb dX7_transmit_225 rfl (lv_at hl 3 rfl) ?_
            refine r_get cX inX7 hw hR.1.1 rfl 0 (by decide) wF_X7_7 rfl dX7_transmit_226 ?_
            refine lv_sipush (v := 137) hx hb dX7_transmit_229 (by decide) ?_
            refine lv_iload_n hx hb dX7_transmit_232 rfl (lv_at hl 4 rfl) ?_
            refine lv_iadd hx hb dX7_transmit_233 ?_
            refine r_iald (v := F (137 + k)) cX hw hR.1.2.1 (137 + k) (nI_add 137 k) (by omega) (by decide) (by rw [pk_un (by omega), pk_un (by omega), pk_un (by omega), pk_un (by omega), pk_un (by omega), pk_un (by omega), pk_un (by omega)]) dX7_transmit_234 ?_
            refine r_iast cX hw hR.1.2.1 (137 + k) (nI_add 137 k) (by omega) (by decide) dX7_transmit_235 (fun H locs hw => ?_)
            have hR := hR.a1 (x := upd (upd (upd (upd (upd (upd (upd (upd F (25 + j) (enF F j size)) (21 + j) ((F (21 + j)) + size)) (29 + j) ((F (29 + j)) + 1)) (33 + j) ((F (33 + j)) + size)) (89 + k) ((F (89 + k)) + 1)) (105 + k) (chF f k)) (121 + k) ((F (121 + k)) + 0)) (137 + k) (F (137 + k)))
            refine lv_iload_n hx hb dX7_transmit_236 rfl (lv_at hl 2 rfl) ?_
            exact r_iret cX hr hlocks hw (by rw [hs]; unfold trF; rw [hcl, if_neg (if01e c17)]; refine ⟨rfl, hR.re ?_⟩; unfold dvF; rw [xmF_o F j (89 + k) _ _ hj (by omega), xmF_o F j (105 + k) _ _ hj (by omega), xmF_o F j (121 + k) _ _ hj (by omega), xmF_o F j (137 + k) _ _ hj (by omega), if_pos ⟨c131, c144⟩, if_neg (Int32.not_lt.mpr c186), if_neg (Int32.not_lt.mpr c217)]; rfl) dX7_transmit_237
          · refine lv_iload hx hb dX7_transmit_220 (lv_at hl 0 rfl) ?_
            refine lv_goto (tgt := 235) hx hb dX7_transmit_222 (by decide) ?_
            refine r_iast cX hw hR.1.2.1 (137 + k) (nI_add 137 k) (by omega) (by decide) dX7_transmit_235 (fun H locs hw => ?_)
            have hR := hR.a1 (x := upd (upd (upd (upd (upd (upd (upd (upd F (25 + j) (enF F j size)) (21 + j) ((F (21 + j)) + size)) (29 + j) ((F (29 + j)) + 1)) (33 + j) ((F (33 + j)) + size)) (89 + k) ((F (89 + k)) + 1)) (105 + k) (chF f k)) (121 + k) ((F (121 + k)) + 0)) (137 + k) ((enF F j size) + (F (9 + j))))
            refine lv_iload_n hx hb dX7_transmit_236 rfl (lv_at hl 2 rfl) ?_
            exact r_iret cX hr hlocks hw (by rw [hs]; unfold trF; rw [hcl, if_neg (if01e c17)]; refine ⟨rfl, hR.re ?_⟩; unfold dvF; rw [xmF_o F j (89 + k) _ _ hj (by omega), xmF_o F j (105 + k) _ _ hj (by omega), xmF_o F j (121 + k) _ _ hj (by omega), xmF_o F j (137 + k) _ _ hj (by omega), if_pos ⟨c131, c144⟩, if_neg (Int32.not_lt.mpr c186), if_pos (Int32.not_le.mp c217)]; rfl) dX7_transmit_237
        · refine lv_iconst (v := 1) hx hb dX7_transmit_189 (by decide) ?_
          refine lv_goto (tgt := 194) hx hb dX7_transmit_190 (by decide) ?_
          refine lv_iadd hx hb dX7_transmit_194 ?_
          refine r_iast cX hw hR.1.2.1 (121 + k) (nI_add 121 k) (by omega) (by decide) dX7_transmit_195 (fun H locs hw => ?_)
          have hR := hR.a1 (x := upd (upd (upd (upd (upd (upd (upd F (25 + j) (enF F j size)) (21 + j) ((F (21 + j)) + size)) (29 + j) ((F (29 + j)) + 1)) (33 + j) ((F (33 + j)) + size)) (89 + k) ((F (89 + k)) + 1)) (105 + k) (chF f k)) (121 + k) ((F (121 + k)) + 1))
          refine lv_aload_n hx hb dX7_transmit_196 rfl (lv_at hl 3 rfl) ?_
          refine r_get cX inX7 hw hR.1.1 rfl 0 (by decide) wF_X7_7 rfl dX7_transmit_197 ?_
          refine lv_sipush (v := 137) hx hb dX7_transmit_200 (by decide) ?_
          refine lv_iload_n hx hb dX7_transmit_203 rfl (lv_at hl 4 rfl) ?_
          refine lv_iadd hx hb dX7_transmit_204 ?_
          refine lv_iload hx hb dX7_transmit_205 (lv_at hl 0 rfl) ?_
          refine lv_aload_n hx hb dX7_transmit_207 rfl (lv_at hl 3 rfl) ?_
          refine r_get cX inX7 hw hR.1.1 rfl 0 (by decide) wF_X7_7 rfl dX7_transmit_208 ?_
          refine lv_sipush (v := 137) hx hb dX7_transmit_211 (by decide) ?_
          refine lv_iload_n hx hb dX7_transmit_214 rfl (lv_at hl 4 rfl) ?_
          refine lv_iadd hx hb dX7_transmit_215 ?_
          refine r_iald (v := F (137 + k)) cX hw hR.1.2.1 (137 + k) (nI_add 137 k) (by omega) (by decide) (by rw [pk_un (by omega), pk_un (by omega), pk_un (by omega), pk_un (by omega), pk_un (by omega), pk_un (by omega), pk_un (by omega)]) dX7_transmit_216 ?_
          refine lv_icmp_le (tgt := 225) hx hb dX7_transmit_217 (by decide) (fun c217 => ?_) (fun c217 => ?_)
          · refine lv_aload_n hx hb dX7_transmit_225 rfl (lv_at hl 3 rfl) ?_
            refine r_get cX inX7 hw hR.1.1 rfl 0 (by decide) wF_X7_7 rfl dX7_transmit_226 ?_
            refine lv_sipush (v := 137) hx hb dX7_transmit_229 (by decide) ?_
            refine lv_iload_n hx hb dX7_transmit_232 rfl (lv_at hl 4 rfl) ?_
            refine lv_iadd hx hb dX7_transmit_233 ?_
            refine r_iald (v := F (137 + k)) cX hw hR.1.2.1 (137 + k) (nI_add 137 k) (by omega) (by decide) (by rw [pk_un (by omega), pk_un (by omega), pk_un (by omega), pk_un (by omega), pk_un (by omega), pk_un (by omega), pk_un (by omega)]) dX7_transmit_234 ?_
            refine r_iast cX hw hR.1.2.1 (137 + k) (nI_add 137 k) (by omega) (by decide) dX7_transmit_235 (fun H locs hw => ?_)
            have hR := hR.a1 (x := upd (upd (upd (upd (upd (upd (upd (upd F (25 + j) (enF F j size)) (21 + j) ((F (21 + j)) + size)) (29 + j) ((F (29 + j)) + 1)) (33 + j) ((F (33 + j)) + size)) (89 + k) ((F (89 + k)) + 1)) (105 + k) (chF f k)) (121 + k) ((F (121 + k)) + 1)) (137 + k) (F (137 + k)))
            refine lv_iload_n hx hb dX7_transmit_236 rfl (lv_at hl 2 rfl) ?_
            exact r_iret cX hr hlocks hw (by rw [hs]; unfold trF; rw [hcl, if_neg (if01e c17)]; refine ⟨rfl, hR.re ?_⟩; unfold dvF; rw [xmF_o F j (89 + k) _ _ hj (by omega), xmF_o F j (105 + k) _ _ hj (by omega), xmF_o F j (121 + k) _ _ hj (by omega), xmF_o F j (137 + k) _ _ hj (by omega), if_pos ⟨c131, c144⟩, if_pos (Int32.not_le.mp c186), if_neg (Int32.not_lt.mpr c217)]; rfl) dX7_transmit_237
          · refine lv_iload hx hb dX7_transmit_220 (lv_at hl 0 rfl) ?_
            refine lv_goto (tgt := 235) hx hb dX7_transmit_222 (by decide) ?_
            refine r_iast cX hw hR.1.2.1 (137 + k) (nI_add 137 k) (by omega) (by decide) dX7_transmit_235 (fun H locs hw => ?_)
            have hR := hR.a1 (x := upd (upd (upd (upd (upd (upd (upd (upd F (25 + j) (enF F j size)) (21 + j) ((F (21 + j)) + size)) (29 + j) ((F (29 + j)) + 1)) (33 + j) ((F (33 + j)) + size)) (89 + k) ((F (89 + k)) + 1)) (105 + k) (chF f k)) (121 + k) ((F (121 + k)) + 1)) (137 + k) ((enF F j size) + (F (9 + j))))
            refine lv_iload_n hx hb dX7_transmit_236 rfl (lv_at hl 2 rfl) ?_
            exact r_iret cX hr hlocks hw (by rw [hs]; unfold trF; rw [hcl, if_neg (if01e c17)]; refine ⟨rfl, hR.re ?_⟩; unfold dvF; rw [xmF_o F j (89 + k) _ _ hj (by omega), xmF_o F j (105 + k) _ _ hj (by omega), xmF_o F j (121 + k) _ _ hj (by omega), xmF_o F j (137 + k) _ _ hj (by omega), if_pos ⟨c131, c144⟩, if_pos (Int32.not_le.mp c186), if_pos (Int32.not_le.mp c217)]; rfl) dX7_transmit_237
  · refine lv_aload_n hx hb dX7_transmit_20 rfl (lv_at hl 1 rfl) ?_
    refine r_get cX inX7 hw hR.1.1 rfl 0 (by decide) wF_X7_7 rfl dX7_transmit_21 ?_
    refine lv_bipush (v := 37) hx hb dX7_transmit_24 (by decide) ?_
    refine lv_iload_n hx hb dX7_transmit_26 rfl (lv_at hl 0 rfl) ?_
    refine lv_iadd hx hb dX7_transmit_27 ?_
    refine lv_dup2_11 hx hb dX7_transmit_28 rfl rfl ?_
    refine r_iald (v := F (37 + j)) cX hw hR.1.2.1 (37 + j) (by rw [hc]; exact nI_add 37 j) (by omega) (by decide) rfl dX7_transmit_29 ?_
    refine lv_iconst (v := 1) hx hb dX7_transmit_30 (by decide) ?_
    refine lv_iadd hx hb dX7_transmit_31 ?_
    refine r_iast cX hw hR.1.2.1 (37 + j) (by rw [hc]; exact nI_add 37 j) (by omega) (by decide) dX7_transmit_32 (fun H locs hw => ?_)
    have hR := hR.a1 (x := upd F (37 + j) ((F (37 + j)) + 1))
    refine lv_bipush (v := 10) hx hb dX7_transmit_33 (by decide) ?_
    refine lv_iload_n hx hb dX7_transmit_35 rfl (lv_at hl 0 rfl) ?_
    refine lv_iadd hx hb dX7_transmit_36 ?_
    exact r_iret cX hr hlocks hw (by rw [hs]; unfold trF; rw [hcl, if_pos (if01n c17)]; exact ⟨rfl, hR⟩) dX7_transmit_37

set_option maxHeartbeats 4000000 in
set_option maxRecDepth 100000 in
theorem c_X7_makeNew (l : Launch) (G : gG) {M : HM} {b : Nat → Nat} {f sv sl fl T iF iN : Nat → Int32} {ct len at_ it : Int32} (hR0 : IsRf G M b f sv sl fl T iF iN ct len at_ it) (P0 E0 : Int32) : Cv l yX7_makeNew cX7_makeNew 4 (rd 0 0 0) G [.ref (b 0), .int P0, .int E0] M (fun M' => Rf G M M' b (iniF P0 E0) sv sl fl T iF iN ct len at_ it) := by
  refine Cv.of (by decide) (Nat.le_of_ble_eq_true rfl) ?_
  intro p e s m args below meth c ls cX hw hlocks hr hnm hl
  have hx := cX.1
  have hb := cX.2.1
  have hl : lv_has ls 4 [(0, .ref (b 0)), (1, .int P0), (2, .int E0)] := hl
  have hR := hR0.rf
  refine lv_iconst (v := 0) hx hb dX7_makeNew_0 (by decide) ?_
  refine lv_istore_n (lv' := [(3, .int 0), (0, .ref (b 0)), (1, .int P0), (2, .int E0)]) hx hb dX7_makeNew_1 rfl hl (by decide) rfl (fun ls hl => ?_)
  have lp2 : ∀ (nn i : Nat), i ≤ 153 → 153 < i + nn → ∀ (g : Nat → Int32) (M1 : HM) (H : Heap) (locs : List Loc) (ls : Array Slot), Wd G (dm M s.heap.size) s.heap M1 H locs → Rf G M M1 b g sv sl fl T iF iN ct len at_ it → (∀ k, k < i → g k = 0) → lv_has ls 4 [(3, .int (nI i)), (2, .int E0), (1, .int P0), (0, .ref (b 0))] → W p l e (rd 0 0 0) s m args below meth c H locs 0 0 (MQ below (QV G M s.heap.size (fun M' => Rf G M M' b (iniF P0 E0) sv sl fl T iF iN ct len at_ it)) args s 0 0 (dm M s.heap.size)) (F0 m 2 ls []) := by
    intro nn
    induction nn with
    | zero =>
      intro i h1 h2
      exact absurd h2 (by omega)
    | succ nn ih =>
      intro i hi hin g M1 H locs ls hw hR hA hl
      refine lv_iload_n hx hb dX7_makeNew_2 rfl (lv_at hl 0 rfl) ?_
      refine lv_sipush (v := 153) hx hb dX7_makeNew_3 (by decide) ?_
      refine lv_icmp_ge (tgt := 22) hx hb dX7_makeNew_6 (by decide) (fun c6 => ?_) (fun c6 => ?_)
      · obtain rfl : i = 153 := Nat.le_antisymm hi (ix_ge (b := 153) (by omega) (by decide) c6)
        refine lv_aload_n hx hb dX7_makeNew_22 rfl (lv_at hl 3 rfl) ?_
        refine r_get cX inX7 hw hR.1.1 rfl 0 (by decide) wF_X7_7 rfl dX7_makeNew_23 ?_
        refine lv_iconst (v := 1) hx hb dX7_makeNew_26 (by decide) ?_
        refine lv_iload_n hx hb dX7_makeNew_27 rfl (lv_at hl 2 rfl) ?_
        refine r_iast cX hw hR.1.2.1 1 rfl (by decide) (by decide) dX7_makeNew_28 (fun H locs hw => ?_)
        have hR := hR.a1 (x := upd g 1 P0)
        refine lv_aload_n hx hb dX7_makeNew_29 rfl (lv_at hl 3 rfl) ?_
        refine r_get cX inX7 hw hR.1.1 rfl 0 (by decide) wF_X7_7 rfl dX7_makeNew_30 ?_
        refine lv_iconst (v := 2) hx hb dX7_makeNew_33 (by decide) ?_
        refine lv_iload_n hx hb dX7_makeNew_34 rfl (lv_at hl 1 rfl) ?_
        refine r_iast cX hw hR.1.2.1 2 rfl (by decide) (by decide) dX7_makeNew_35 (fun H locs hw => ?_)
        have hR := hR.a1 (x := upd (upd g 1 P0) 2 E0)
        refine lv_aload_n hx hb dX7_makeNew_36 rfl (lv_at hl 3 rfl) ?_
        refine r_get cX inX7 hw hR.1.1 rfl 0 (by decide) wF_X7_7 rfl dX7_makeNew_37 ?_
        refine lv_iconst (v := 3) hx hb dX7_makeNew_40 (by decide) ?_
        refine lv_bipush (v := 20) hx hb dX7_makeNew_41 (by decide) ?_
        refine r_iast cX hw hR.1.2.1 3 rfl (by decide) (by decide) dX7_makeNew_43 (fun H locs hw => ?_)
        have hR := hR.a1 (x := upd (upd (upd g 1 P0) 2 E0) 3 20)
        refine lv_aload_n hx hb dX7_makeNew_44 rfl (lv_at hl 3 rfl) ?_
        refine r_get cX inX7 hw hR.1.1 rfl 0 (by decide) wF_X7_7 rfl dX7_makeNew_45 ?_
        refine lv_iconst (v := 5) hx hb dX7_makeNew_48 (by decide) ?_
        refine lv_iconst (v := 1) hx hb dX7_makeNew_49 (by decide) ?_
        refine r_iast cX hw hR.1.2.1 5 rfl (by decide) (by decide) dX7_makeNew_50 (fun H locs hw => ?_)
        have hR := hR.a1 (x := upd (upd (upd (upd g 1 P0) 2 E0) 3 20) 5 1)
        refine lv_aload_n hx hb dX7_makeNew_51 rfl (lv_at hl 3 rfl) ?_
        refine r_get cX inX7 hw hR.1.1 rfl 0 (by decide) wF_X7_7 rfl dX7_makeNew_52 ?_
        refine lv_bipush (v := 6) hx hb dX7_makeNew_55 (by decide) ?_
        refine lv_iconst (v := 2) hx hb dX7_makeNew_57 (by decide) ?_
        refine r_iast cX hw hR.1.2.1 6 rfl (by decide) (by decide) dX7_makeNew_58 (fun H locs hw => ?_)
        have hR := hR.a1 (x := upd (upd (upd (upd (upd g 1 P0) 2 E0) 3 20) 5 1) 6 2)
        refine lv_aload_n hx hb dX7_makeNew_59 rfl (lv_at hl 3 rfl) ?_
        refine r_get cX inX7 hw hR.1.1 rfl 0 (by decide) wF_X7_7 rfl dX7_makeNew_60 ?_
        refine lv_bipush (v := 7) hx hb dX7_makeNew_63 (by decide) ?_
        refine lv_iconst (v := 1) hx hb dX7_makeNew_65 (by decide) ?_
        refine r_iast cX hw hR.1.2.1 7 rfl (by decide) (by decide) dX7_makeNew_66 (fun H locs hw => ?_)
        have hR := hR.a1 (x := upd (upd (upd (upd (upd (upd g 1 P0) 2 E0) 3 20) 5 1) 6 2) 7 1)
        refine lv_iconst (v := 0) hx hb dX7_makeNew_67 (by decide) ?_
        refine lv_istore_n (lv' := [(3, .int 0), (2, .int E0), (1, .int P0), (0, .ref (b 0))]) hx hb dX7_makeNew_68 rfl hl (by decide) rfl (fun ls hl => ?_)
        have lp69 : ∀ (nn i : Nat), i ≤ 4 → 4 < i + nn → ∀ (g : Nat → Int32) (M1 : HM) (H : Heap) (locs : List Loc) (ls : Array Slot), Wd G (dm M s.heap.size) s.heap M1 H locs → Rf G M M1 b g sv sl fl T iF iN ct len at_ it → (∀ k, k < 153 → (k < 9 ∨ (9 ≤ k ∧ k < 17 ∧ (k - 9) % 4 < i) ∨ (17 ≤ k ∧ k < 49) ∨ (57 ≤ k ∧ k < 105) ∨ (121 ≤ k ∧ k < 137)) → g k = iniF P0 E0 k) → lv_has ls 4 [(3, .int (nI i)), (2, .int E0), (1, .int P0), (0, .ref (b 0))] → W p l e (rd 0 0 0) s m args below meth c H locs 0 0 (MQ below (QV G M s.heap.size (fun M' => Rf G M M' b (iniF P0 E0) sv sl fl T iF iN ct len at_ it)) args s 0 0 (dm M s.heap.size)) (F0 m 69 ls []) := by
          intro nn
          induction nn with
          | zero =>
            intro i h1 h2
            exact absurd h2 (by omega)
          | succ nn ih =>
            intro i hi hin g M1 H locs ls hw hR hA hl
            refine lv_iload_n hx hb dX7_makeNew_69 rfl (lv_at hl 0 rfl) ?_
            refine lv_iconst (v := 4) hx hb dX7_makeNew_70 (by decide) ?_
            refine lv_icmp_ge (tgt := 102) hx hb dX7_makeNew_71 (by decide) (fun c71 => ?_) (fun c71 => ?_)
            · obtain rfl : i = 4 := Nat.le_antisymm hi (ix_ge (b := 4) (by omega) (by decide) c71)
              refine lv_iconst (v := 0) hx hb dX7_makeNew_102 (by decide) ?_
              refine lv_istore_n (lv' := [(3, .int 0), (2, .int E0), (1, .int P0), (0, .ref (b 0))]) hx hb dX7_makeNew_103 rfl hl (by decide) rfl (fun ls hl => ?_)
              have lp104 : ∀ (nn i : Nat), i ≤ 8 → 8 < i + nn → ∀ (g : Nat → Int32) (M1 : HM) (H : Heap) (locs : List Loc) (ls : Array Slot), Wd G (dm M s.heap.size) s.heap M1 H locs → Rf G M M1 b g sv sl fl T iF iN ct len at_ it → (∀ k, k < 153 → (k < 49 ∨ (49 ≤ k ∧ k < 57 ∧ k - 49 < i) ∨ (57 ≤ k ∧ k < 105) ∨ (121 ≤ k ∧ k < 137)) → g k = iniF P0 E0 k) → lv_has ls 4 [(3, .int (nI i)), (2, .int E0), (1, .int P0), (0, .ref (b 0))] → W p l e (rd 0 0 0) s m args below meth c H locs 0 0 (MQ below (QV G M s.heap.size (fun M' => Rf G M M' b (iniF P0 E0) sv sl fl T iF iN ct len at_ it)) args s 0 0 (dm M s.heap.size)) (F0 m 104 ls []) := by
                intro nn
                induction nn with
                | zero =>
                  intro i h1 h2
                  exact absurd h2 (by omega)
                | succ nn ih =>
                  intro i hi hin g M1 H locs ls hw hR hA hl
                  refine lv_iload_n hx hb dX7_makeNew_104 rfl (lv_at hl 0 rfl) ?_
                  refine lv_bipush (v := 8) hx hb dX7_makeNew_105 (by decide) ?_
                  refine lv_icmp_ge (tgt := 127) hx hb dX7_makeNew_107 (by decide) (fun c107 => ?_) (fun c107 => ?_)
                  · obtain rfl : i = 8 := Nat.le_antisymm hi (ix_ge (b := 8) (by omega) (by decide) c107)
                    refine lv_iconst (v := 0) hx hb dX7_makeNew_127 (by decide) ?_
                    refine lv_istore_n (lv' := [(3, .int 0), (2, .int E0), (1, .int P0), (0, .ref (b 0))]) hx hb dX7_makeNew_128 rfl hl (by decide) rfl (fun ls hl => ?_)
                    have lp129 : ∀ (nn i : Nat), i ≤ 16 → 16 < i + nn → ∀ (g : Nat → Int32) (M1 : HM) (H : Heap) (locs : List Loc) (ls : Array Slot), Wd G (dm M s.heap.size) s.heap M1 H locs → Rf G M M1 b g sv sl fl T iF iN ct len at_ it → (∀ k, k < 153 → (k < 105 ∨ (105 ≤ k ∧ k < 121 ∧ k - 105 < i) ∨ (121 ≤ k ∧ k < 137) ∨ (137 ≤ k ∧ k - 137 < i)) → g k = iniF P0 E0 k) → lv_has ls 4 [(3, .int (nI i)), (2, .int E0), (1, .int P0), (0, .ref (b 0))] → W p l e (rd 0 0 0) s m args below meth c H locs 0 0 (MQ below (QV G M s.heap.size (fun M' => Rf G M M' b (iniF P0 E0) sv sl fl T iF iN ct len at_ it)) args s 0 0 (dm M s.heap.size)) (F0 m 129 ls []) := by
                      intro nn
                      induction nn with
                      | zero =>
                        intro i h1 h2
                        exact absurd h2 (by omega)
                      | succ nn ih =>
                        intro i hi hin g M1 H locs ls hw hR hA hl
                        refine lv_iload_n hx hb dX7_makeNew_129 rfl (lv_at hl 0 rfl) ?_
                        refine lv_bipush (v := 16) hx hb dX7_makeNew_130 (by decide) ?_
                        refine lv_icmp_ge (tgt := 164) hx hb dX7_makeNew_132 (by decide) (fun c132 => ?_) (fun c132 => ?_)
                        · obtain rfl : i = 16 := Nat.le_antisymm hi (ix_ge (b := 16) (by omega) (by decide) c132)
                          have hw := hw.arr hR.1.2.1 (g := iniF P0 E0) (fun i hi => hA i hi (by omega))
                          have hR := hR.a1 (x := iniF P0 E0)
                          exact r_vret cX hr hlocks hw hR dX7_makeNew_164
                        · have hlt : i < 16 := ix_lt (b := 16) (by omega) c132
                          refine lv_aload_n hx hb dX7_makeNew_135 rfl (lv_at hl 3 rfl) ?_
                          refine r_get cX inX7 hw hR.1.1 rfl 0 (by decide) wF_X7_7 rfl dX7_makeNew_136 ?_
                          refine lv_bipush (v := 105) hx hb dX7_makeNew_139 (by decide) ?_
                          refine lv_iload_n hx hb dX7_makeNew_141 rfl (lv_at hl 0 rfl) ?_
                          refine lv_iadd hx hb dX7_makeNew_142 ?_
                          refine lv_bipush (v := (-9)) hx hb dX7_makeNew_143 (by decide) ?_
                          refine r_iast cX hw hR.1.2.1 (105 + i) (nI_add 105 i) (by omega) (by decide) dX7_makeNew_145 (fun H locs hw => ?_)
                          have hR := hR.a1 (x := upd g (105 + i) (-9))
                          refine lv_aload_n hx hb dX7_makeNew_146 rfl (lv_at hl 3 rfl) ?_
                          refine r_get cX inX7 hw hR.1.1 rfl 0 (by decide) wF_X7_7 rfl dX7_makeNew_147 ?_
                          refine lv_sipush (v := 137) hx hb dX7_makeNew_150 (by decide) ?_
                          refine lv_iload_n hx hb dX7_makeNew_153 rfl (lv_at hl 0 rfl) ?_
                          refine lv_iadd hx hb dX7_makeNew_154 ?_
                          refine lv_bipush (v := (-9)) hx hb dX7_makeNew_155 (by decide) ?_
                          refine r_iast cX hw hR.1.2.1 (137 + i) (nI_add 137 i) (by omega) (by decide) dX7_makeNew_157 (fun H locs hw => ?_)
                          have hR := hR.a1 (x := upd (upd g (105 + i) (-9)) (137 + i) (-9))
                          refine lv_iinc (v := (nI (i + 1))) (lv' := [(3, .int (nI (i + 1))), (2, .int E0), (1, .int P0), (0, .ref (b 0))]) hx hb dX7_makeNew_158 hl (k := 0) rfl (nI_1 i) (by decide) rfl (fun ls hl => ?_)
                          refine lv_goto (tgt := 129) hx hb dX7_makeNew_161 (by decide) ?_
                          exact ih (i + 1) (by omega) (by omega) (upd (upd g (105 + i) (-9)) (137 + i) (-9)) _ _ _ _ hw hR (fun k hk hd => by unfold upd; split; (rename_i q; rw [ini_9 P0 E0 k (by omega)]); split; (rename_i q; rw [ini_9 P0 E0 k (by omega)]); exact hA k hk (by omega)) (lv_sub hl [0, 1, 2, 3] rfl)
                    exact lp129 (16 + 1) 0 (by omega) (by omega) g _ _ _ _ hw hR (fun k hk hd => hA k hk (by omega)) (lv_sub hl [0, 1, 2, 3] rfl)
                  · have hlt : i < 8 := ix_lt (b := 8) (by omega) c107
                    refine lv_aload_n hx hb dX7_makeNew_110 rfl (lv_at hl 3 rfl) ?_
                    refine r_get cX inX7 hw hR.1.1 rfl 0 (by decide) wF_X7_7 rfl dX7_makeNew_111 ?_
                    refine lv_bipush (v := 49) hx hb dX7_makeNew_114 (by decide) ?_
                    refine lv_iload_n hx hb dX7_makeNew_116 rfl (lv_at hl 0 rfl) ?_
                    refine lv_iadd hx hb dX7_makeNew_117 ?_
                    refine lv_bipush (v := (-9)) hx hb dX7_makeNew_118 (by decide) ?_
                    refine r_iast cX hw hR.1.2.1 (49 + i) (nI_add 49 i) (by omega) (by decide) dX7_makeNew_120 (fun H locs hw => ?_)
                    have hR := hR.a1 (x := upd g (49 + i) (-9))
                    refine lv_iinc (v := (nI (i + 1))) (lv' := [(3, .int (nI (i + 1))), (2, .int E0), (1, .int P0), (0, .ref (b 0))]) hx hb dX7_makeNew_121 hl (k := 0) rfl (nI_1 i) (by decide) rfl (fun ls hl => ?_)
                    refine lv_goto (tgt := 104) hx hb dX7_makeNew_124 (by decide) ?_
                    exact ih (i + 1) (by omega) (by omega) (upd g (49 + i) (-9)) _ _ _ _ hw hR (fun k hk hd => by unfold upd; split; (rename_i q; rw [ini_9 P0 E0 k (by omega)]); exact hA k hk (by omega)) (lv_sub hl [0, 1, 2, 3] rfl)
              exact lp104 (8 + 1) 0 (by omega) (by omega) g _ _ _ _ hw hR (fun k hk hd => hA k hk (by omega)) (lv_sub hl [0, 1, 2, 3] rfl)
            · have hlt : i < 4 := ix_lt (b := 4) (by omega) c71
              refine lv_aload_n hx hb dX7_makeNew_74 rfl (lv_at hl 3 rfl) ?_
              refine r_get cX inX7 hw hR.1.1 rfl 0 (by decide) wF_X7_7 rfl dX7_makeNew_75 ?_
              refine lv_bipush (v := 9) hx hb dX7_makeNew_78 (by decide) ?_
              refine lv_iload_n hx hb dX7_makeNew_80 rfl (lv_at hl 0 rfl) ?_
              refine lv_iadd hx hb dX7_makeNew_81 ?_
              refine lv_bipush (v := 10) hx hb dX7_makeNew_82 (by decide) ?_
              refine r_iast cX hw hR.1.2.1 (9 + i) (nI_add 9 i) (by omega) (by decide) dX7_makeNew_84 (fun H locs hw => ?_)
              have hR := hR.a1 (x := upd g (9 + i) 10)
              refine lv_aload_n hx hb dX7_makeNew_85 rfl (lv_at hl 3 rfl) ?_
              refine r_get cX inX7 hw hR.1.1 rfl 0 (by decide) wF_X7_7 rfl dX7_makeNew_86 ?_
              refine lv_bipush (v := 13) hx hb dX7_makeNew_89 (by decide) ?_
              refine lv_iload_n hx hb dX7_makeNew_91 rfl (lv_at hl 0 rfl) ?_
              refine lv_iadd hx hb dX7_makeNew_92 ?_
              refine lv_bipush (v := 10) hx hb dX7_makeNew_93 (by decide) ?_
              refine r_iast cX hw hR.1.2.1 (13 + i) (nI_add 13 i) (by omega) (by decide) dX7_makeNew_95 (fun H locs hw => ?_)
              have hR := hR.a1 (x := upd (upd g (9 + i) 10) (13 + i) 10)
              refine lv_iinc (v := (nI (i + 1))) (lv' := [(3, .int (nI (i + 1))), (2, .int E0), (1, .int P0), (0, .ref (b 0))]) hx hb dX7_makeNew_96 hl (k := 0) rfl (nI_1 i) (by decide) rfl (fun ls hl => ?_)
              refine lv_goto (tgt := 69) hx hb dX7_makeNew_99 (by decide) ?_
              exact ih (i + 1) (by omega) (by omega) (upd (upd g (9 + i) 10) (13 + i) 10) _ _ _ _ hw hR (fun k hk hd => by unfold upd; split; (rename_i q; rw [ini_10 P0 E0 k (by omega)]); split; (rename_i q; rw [ini_10 P0 E0 k (by omega)]); exact hA k hk (by omega)) (lv_sub hl [0, 1, 2, 3] rfl)
        exact lp69 (4 + 1) 0 (by omega) (by omega) (upd (upd (upd (upd (upd (upd g 1 P0) 2 E0) 3 20) 5 1) 6 2) 7 1) _ _ _ _ hw hR (fun k hk hd => ini_st P0 E0 g hA k hk (by omega)) (lv_sub hl [0, 1, 2, 3] rfl)
      · have hlt : i < 153 := ix_lt (b := 153) (by omega) c6
        refine lv_aload_n hx hb dX7_makeNew_9 rfl (lv_at hl 3 rfl) ?_
        refine r_get cX inX7 hw hR.1.1 rfl 0 (by decide) wF_X7_7 rfl dX7_makeNew_10 ?_
        refine lv_iload_n hx hb dX7_makeNew_13 rfl (lv_at hl 0 rfl) ?_
        refine lv_iconst (v := 0) hx hb dX7_makeNew_14 (by decide) ?_
        refine r_iast cX hw hR.1.2.1 i rfl (by omega) (by decide) dX7_makeNew_15 (fun H locs hw => ?_)
        have hR := hR.a1 (x := upd g i 0)
        refine lv_iinc (v := (nI (i + 1))) (lv' := [(3, .int (nI (i + 1))), (2, .int E0), (1, .int P0), (0, .ref (b 0))]) hx hb dX7_makeNew_16 hl (k := 0) rfl (nI_1 i) (by decide) rfl (fun ls hl => ?_)
        refine lv_goto (tgt := 2) hx hb dX7_makeNew_19 (by decide) ?_
        exact ih (i + 1) (by omega) (by omega) (upd g i 0) _ _ _ _ hw hR (fun k hk => by unfold upd; split <;> first | rfl | exact hA k (by omega)) (lv_sub hl [0, 1, 2, 3] rfl)
  exact lp2 (153 + 1) 0 (by omega) (by omega) f _ _ _ _ hw hR (fun k hk => absurd hk (by omega)) (lv_sub hl [0, 3, 2, 1] rfl)
