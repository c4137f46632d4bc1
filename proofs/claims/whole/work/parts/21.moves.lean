theorem if01n {c : Prop} [Decidable c] (h : ¬ (if c then (1 : Int32) else 0) = 0) : c := by
  by_cases q : c
  · exact q
  · rw [if_neg q] at h
    exact absurd rfl h
theorem if01e {c : Prop} [Decidable c] (h : (if c then (1 : Int32) else 0) = 0) : ¬ c := by
  intro q
  rw [if_pos q] at h
  exact absurd h (by decide)
theorem St.re {G : gG} {M0 M : HM} {L : Nat → Nat} {f g : Nat → Int32} (h : St G M0 M L f) (e : f = g) : St G M0 M L g := e ▸ h
theorem St.paE {G : gG} {M0 M M' : HM} {L : Nat → Nat} {f f' : Nat → Int32} {fs : List Value} (h : St G M0 M L f) (j : Nat) (hj : j < 4) (hp : M' = mu M (L (4 + j)) (.inr (2, fs))) (hfs : fs = paFs f' j) (e : ∀ k, k < 153 → ¬ isPa j k → f' k = f k) : St G M0 M' L f' := hp ▸ h.pa j hj hfs e
theorem St.enE {G : gG} {M0 M M' : HM} {L : Nat → Nat} {f f' : Nat → Int32} {fs : List Value} (h : St G M0 M L f) (j : Nat) (hj : j < 8) (hp : M' = mu M (L (8 + j)) (.inr (0, fs))) (hfs : fs = enFs f' j) (hz : f' (41 + j) = 0 ∨ f' (41 + j) = 1) (e : ∀ k, k < 153 → ¬ isEn j k → f' k = f k) : St G M0 M' L f' := hp ▸ h.en j hj hfs hz e
theorem St.flE {G : gG} {M0 M M' : HM} {L : Nat → Nat} {f f' : Nat → Int32} {fs : List Value} (h : St G M0 M L f) (j : Nat) (hj : j < 16) (hp : M' = mu M (L (16 + j)) (.inr (1, fs))) (hfs : fs = flFs f' j) (e : ∀ k, k < 153 → ¬ isFl j k → f' k = f k) : St G M0 M' L f' := hp ▸ h.fl j hj hfs e
theorem nI_lep {k P : Nat} (h : k < P) (hP : P < 2 ^ 31) : nI k ≤ nI P - 1 := by
  rw [show (1 : Int32) = nI 1 from rfl, pk_sub (by omega)]
  exact nI_le (by omega) (by omega)
def woF (f : Nat → Int32) (k : Nat) (size : Int32) : Int32 := if ¬ 200 < f (25 + (chF f k).toNatClampNeg) - f 0 ∧ enF f (chF f k).toNatClampNeg size + f (9 + (chF f k).toNatClampNeg) < f (137 + k) then 1 else 0
set_option maxHeartbeats 4000000 in
set_option maxRecDepth 100000 in
theorem c_X4_decayLoads (l : Launch) (G : gG) {M : HM} {L : Nat → Nat} {f : Nat → Int32} (hI0 : IsSt G M L f) {B : Nat} (hv : Inv B f) : Cv l yX4_decayLoads cX4_decayLoads 2 (rd 1 0 0) G [.ref (L 0)] M (fun M' => St G M M' L (dcN f (nP f))) := by
  obtain ⟨e1, e2, e3⟩ := hv.P
  refine Cv.of (by decide) (Nat.le_of_ble_eq_true rfl) ?_
  intro p e s m args below meth c ls cX hw hlocks hr hnm hl
  have hx := cX.1
  have hb := cX.2.1
  have hl : lv_has ls 2 [(0, .ref (L 0))] := hl
  have hI := hI0.st
  refine lv_iconst (v := 0) hx hb dX4_decayLoads_0 (by decide) ?_
  refine lv_istore_n (lv' := [(1, .int 0), (0, .ref (L 0))]) hx hb dX4_decayLoads_1 rfl hl (by decide) rfl (fun ls hl => ?_)
  have lp2 : ∀ (nn i : Nat), i ≤ nP f → nP f < i + nn → ∀ (M1 : HM) (H : Heap) (locs : List Loc) (ls : Array Slot), Wd G (dm M s.heap.size) s.heap M1 H locs → St G M M1 L (dcN f i) → lv_has ls 2 [(1, .int (nI i)), (0, .ref (L 0))] → W p l e (rd 1 0 0) s m args below meth c H locs 0 0 (MQ below (QV G M s.heap.size (fun M' => St G M M' L (dcN f (nP f)))) args s 0 0 (dm M s.heap.size)) (F0 m 2 ls []) := by
    intro nn
    induction nn with
    | zero =>
      intro i h1 h2
      exact absurd h2 (by omega)
    | succ nn ih =>
      intro i hi hin M1 H locs ls hw hI hl
      refine lv_iload_n hx hb dX4_decayLoads_2 rfl (lv_at hl 0 rfl) ?_
      refine lv_aload_n hx hb dX4_decayLoads_3 rfl (lv_at hl 1 rfl) ?_
      refine r_get cX inX4 hw hI.1.1 rfl 0 (by decide) wF_X4_36 rfl dX4_decayLoads_4 ?_
      refine lv_icmp_ge (tgt := 29) hx hb dX4_decayLoads_7 (by decide) (fun c7 => ?_) (fun c7 => ?_)
      · obtain rfl : i = nP f := Nat.le_antisymm hi (ix_ge (b := nP f) (by omega) (by omega) (by rw [← ((dcN_o f i 1 (by omega)).trans e3)]; exact c7))
        exact r_vret cX hr hlocks hw hI dX4_decayLoads_29
      · have hlt : i < nP f := ix_lt (b := nP f) (by omega) (by rw [← ((dcN_o f i 1 (by omega)).trans e3)]; exact c7)
        refine lv_aload_n hx hb dX4_decayLoads_10 rfl (lv_at hl 1 rfl) ?_
        refine r_get cX inX4 hw hI.1.1 rfl 9 (by decide) wF_X4_11 rfl dX4_decayLoads_11 ?_
        refine lv_iload_n hx hb dX4_decayLoads_14 rfl (lv_at hl 0 rfl) ?_
        obtain ⟨g_7, hg_7, hg_7_⟩ := hI.1.2.1
        refine r_aald cX hw 4 rfl hg_7 i rfl (by omega) (by decide) (hg_7_ i (by omega)) dX4_decayLoads_15 ?_
        refine lv_aload_n hx hb dX4_decayLoads_16 rfl (lv_at hl 1 rfl) ?_
        refine r_get cX inX4 hw hI.1.1 rfl 6 (by decide) wF_X4_55 rfl dX4_decayLoads_17 ?_
        refine r_Vv cX hw (hI.1.2.2.2.2.1 i (by omega)) rfl [.int ((dcN f i) 6)] (c_X2_decay l G (hI.1.2.2.2.2.1 i (by omega)) ((dcN f i) 6)) wM_X4_126 mw_X2_decay ⟨Nat.le_of_ble_eq_true rfl, Nat.le_of_ble_eq_true rfl⟩ rfl rfl hl.1 (Nat.le_of_ble_eq_true rfl) dX4_decayLoads_20 ⟨Nat.le_of_ble_eq_true rfl, Nat.le_of_ble_eq_true rfl⟩ (fun M1 H locs hp hw => ?_)
        rw [dcN_o f i 6 (by omega)] at hp
        have hI := hI.paE (f' := dcN f (i + 1)) i (by omega) hp (by simp [paFs, dcN, upd]) (fun k h1 h2 => by show upd _ _ _ k = _; exact pk_un (by unfold isPa at h2; omega))
        refine lv_iinc (v := (nI (i + 1))) (lv' := [(1, .int (nI (i + 1))), (0, .ref (L 0))]) hx hb dX4_decayLoads_23 hl (k := 0) rfl (nI_1 i) (by decide) rfl (fun ls hl => ?_)
        refine lv_goto (tgt := 2) hx hb dX4_decayLoads_26 (by decide) ?_
        exact ih (i + 1) (by omega) (by omega) _ _ _ _ hw hI (lv_sub hl [0, 1] rfl)
  exact lp2 (nP f + 1) 0 (by omega) (by omega) _ _ _ _ hw hI (lv_sub hl [0, 1] rfl)

set_option maxHeartbeats 4000000 in
set_option maxRecDepth 100000 in
theorem c_X4_ageEntries (l : Launch) (G : gG) {M : HM} {L : Nat → Nat} {f : Nat → Int32} (hI0 : IsSt G M L f) {B : Nat} (hv : Inv B f) : Cv l yX4_ageEntries cX4_ageEntries 2 (rd 1 0 0) G [.ref (L 0)] M (fun M' => St G M M' L (agN f (nE f))) := by
  obtain ⟨e1, e2, e3⟩ := hv.E
  refine Cv.of (by decide) (Nat.le_of_ble_eq_true rfl) ?_
  intro p e s m args below meth c ls cX hw hlocks hr hnm hl
  have hx := cX.1
  have hb := cX.2.1
  have hl : lv_has ls 2 [(0, .ref (L 0))] := hl
  have hI := hI0.st
  refine lv_iconst (v := 0) hx hb dX4_ageEntries_0 (by decide) ?_
  refine lv_istore_n (lv' := [(1, .int 0), (0, .ref (L 0))]) hx hb dX4_ageEntries_1 rfl hl (by decide) rfl (fun ls hl => ?_)
  have lp2 : ∀ (nn i : Nat), i ≤ nE f → nE f < i + nn → ∀ (M1 : HM) (H : Heap) (locs : List Loc) (ls : Array Slot), Wd G (dm M s.heap.size) s.heap M1 H locs → St G M M1 L (agN f i) → lv_has ls 2 [(1, .int (nI i)), (0, .ref (L 0))] → W p l e (rd 1 0 0) s m args below meth c H locs 0 0 (MQ below (QV G M s.heap.size (fun M' => St G M M' L (agN f (nE f)))) args s 0 0 (dm M s.heap.size)) (F0 m 2 ls []) := by
    intro nn
    induction nn with
    | zero =>
      intro i h1 h2
      exact absurd h2 (by omega)
    | succ nn ih =>
      intro i hi hin M1 H locs ls hw hI hl
      refine lv_iload_n hx hb dX4_ageEntries_2 rfl (lv_at hl 0 rfl) ?_
      refine lv_aload_n hx hb dX4_ageEntries_3 rfl (lv_at hl 1 rfl) ?_
      refine r_get cX inX4 hw hI.1.1 rfl 1 (by decide) wF_X4_40 rfl dX4_ageEntries_4 ?_
      refine lv_icmp_ge (tgt := 25) hx hb dX4_ageEntries_7 (by decide) (fun c7 => ?_) (fun c7 => ?_)
      · obtain rfl : i = nE f := Nat.le_antisymm hi (ix_ge (b := nE f) (by omega) (by omega) (by rw [← ((agN_o f i 2 (by omega)).trans e3)]; exact c7))
        exact r_vret cX hr hlocks hw hI dX4_ageEntries_25
      · have hlt : i < nE f := ix_lt (b := nE f) (by omega) (by rw [← ((agN_o f i 2 (by omega)).trans e3)]; exact c7)
        refine lv_aload_n hx hb dX4_ageEntries_10 rfl (lv_at hl 1 rfl) ?_
        refine r_get cX inX4 hw hI.1.1 rfl 10 (by decide) wF_X4_19 rfl dX4_ageEntries_11 ?_
        refine lv_iload_n hx hb dX4_ageEntries_14 rfl (lv_at hl 0 rfl) ?_
        obtain ⟨g_8, hg_8, hg_8_⟩ := hI.1.2.2.1
        refine r_aald cX hw 2 rfl hg_8 i rfl (by omega) (by decide) (hg_8_ i (by omega)) dX4_ageEntries_15 ?_
        refine r_Vv cX hw (hI.1.2.2.2.2.2.1 i (by omega)) rfl [] (c_X0_growOlder l G (hI.1.2.2.2.2.2.1 i (by omega))) wM_X4_130 mw_X0_growOlder ⟨Nat.le_of_ble_eq_true rfl, Nat.le_of_ble_eq_true rfl⟩ rfl rfl hl.1 (Nat.le_of_ble_eq_true rfl) dX4_ageEntries_16 ⟨Nat.le_of_ble_eq_true rfl, Nat.le_of_ble_eq_true rfl⟩ (fun M1 H locs hp hw => ?_)
        have hI := hI.age i (by omega) (by rw [agN_o f i (65 + i) (by omega)]; exact (hv.2.2.2.2.2.2.2.2 i (by omega)).2.2.2) hp
        have hI : St G M M1 L (agN f (i + 1)) := hI
        refine lv_iinc (v := (nI (i + 1))) (lv' := [(1, .int (nI (i + 1))), (0, .ref (L 0))]) hx hb dX4_ageEntries_19 hl (k := 0) rfl (nI_1 i) (by decide) rfl (fun ls hl => ?_)
        refine lv_goto (tgt := 2) hx hb dX4_ageEntries_22 (by decide) ?_
        exact ih (i + 1) (by omega) (by omega) _ _ _ _ hw hI (lv_sub hl [0, 1] rfl)
  exact lp2 (nE f + 1) 0 (by omega) (by omega) _ _ _ _ hw hI (lv_sub hl [0, 1] rfl)

set_option maxHeartbeats 4000000 in
set_option maxRecDepth 100000 in
theorem c_X4_letTimePass (l : Launch) (G : gG) {M : HM} {L : Nat → Nat} {f : Nat → Int32} (hI0 : IsSt G M L f) {B T n : Nat} (hv : Inv B f) (hT : f 0 = nI T) (hTn : T + n ≤ 1000000) : Cv l yX4_letTimePass cX4_letTimePass 3 (rd 2 0 0) G [.ref (L 0), .int (nI n)] M (fun M' => St G M M' L (psN f n)) := by
  refine Cv.of (by decide) (Nat.le_of_ble_eq_true rfl) ?_
  intro p e s m args below meth c ls cX hw hlocks hr hnm hl
  have hx := cX.1
  have hb := cX.2.1
  have hl : lv_has ls 3 [(0, .ref (L 0)), (1, .int (nI n))] := hl
  have hI := hI0.st
  refine lv_iconst (v := 0) hx hb dX4_letTimePass_0 (by decide) ?_
  refine lv_istore_n (lv' := [(2, .int 0), (0, .ref (L 0)), (1, .int (nI n))]) hx hb dX4_letTimePass_1 rfl hl (by decide) rfl (fun ls hl => ?_)
  have lp2 : ∀ (nn i : Nat), i ≤ n → n < i + nn → ∀ (M1 : HM) (H : Heap) (locs : List Loc) (ls : Array Slot), Wd G (dm M s.heap.size) s.heap M1 H locs → St G M M1 L (psN f i) → lv_has ls 3 [(2, .int (nI i)), (1, .int (nI n)), (0, .ref (L 0))] → W p l e (rd 2 0 0) s m args below meth c H locs 0 0 (MQ below (QV G M s.heap.size (fun M' => St G M M' L (psN f n))) args s 0 0 (dm M s.heap.size)) (F0 m 2 ls []) := by
    intro nn
    induction nn with
    | zero =>
      intro i h1 h2
      exact absurd h2 (by omega)
    | succ nn ih =>
      intro i hi hin M1 H locs ls hw hI hl
      refine lv_iload_n hx hb dX4_letTimePass_2 rfl (lv_at hl 0 rfl) ?_
      refine lv_iload_n hx hb dX4_letTimePass_3 rfl (lv_at hl 1 rfl) ?_
      refine lv_icmp_ge (tgt := 63) hx hb dX4_letTimePass_4 (by decide) (fun c4 => ?_) (fun c4 => ?_)
      · obtain rfl : i = n := Nat.le_antisymm hi (ix_ge (by omega) (by omega) c4)
        exact r_vret cX hr hlocks hw hI dX4_letTimePass_63
      · have hlt : i < n := ix_lt (by omega) c4
        obtain ⟨hvi, hTi⟩ := hv.ps hT hTn i (by omega)
        refine lv_aload_n hx hb dX4_letTimePass_7 rfl (lv_at hl 2 rfl) ?_
        refine lv_dup hx hb dX4_letTimePass_8 rfl ?_
        refine r_get cX inX4 hw hI.1.1 rfl 2 (by decide) wF_X4_43 rfl dX4_letTimePass_9 ?_
        refine lv_iconst (v := 1) hx hb dX4_letTimePass_12 (by decide) ?_
        refine lv_iadd hx hb dX4_letTimePass_13 ?_
        refine r_put (fs' := stFs L (t1F (psN f i))) cX inX4 tyX4 tyX4_ok nmX4 hw hI.1.1 rfl 2 (by decide) wF_X4_43 rfl rfl rfl rfl (Nat.le_of_ble_eq_true rfl) dX4_letTimePass_14 (fun H locs hw => ?_)
        have hI := hI.sc (f' := t1F (psN f i)) (fun k h1 _ => pk_un (by omega))
        have hv1 := (hvi.t1 hTi (by omega)).1
        refine lv_aload_n hx hb dX4_letTimePass_17 rfl (lv_at hl 2 rfl) ?_
        refine r_get cX inX4 hw hI.1.1 rfl 2 (by decide) wF_X4_43 rfl dX4_letTimePass_18 ?_
        refine lv_bipush (v := 10) hx hb dX4_letTimePass_21 (by decide) ?_
        refine r_irem hx hb dX4_letTimePass_23 (by decide) ?_
        refine lv_if_ne (tgt := 31) hx hb dX4_letTimePass_24 (by decide) (fun c24 => ?_) (fun c24 => ?_)
        · have hI := hI.re (g := t2F (t1F (psN f i))) (by unfold t2F; rw [if_neg c24])
          have hv2 := hv1.t2.1
          refine lv_aload_n hx hb dX4_letTimePass_31 rfl (lv_at hl 2 rfl) ?_
          refine r_get cX inX4 hw hI.1.1 rfl 4 (by decide) wF_X4_49 rfl dX4_letTimePass_32 ?_
          refine lv_iconst (v := 1) hx hb dX4_letTimePass_35 (by decide) ?_
          refine lv_icmp_ne (tgt := 57) hx hb dX4_letTimePass_36 (by decide) (fun c36 => ?_) (fun c36 => ?_)
          · have hI := hI.re (g := psN f (i + 1)) (by show _ = t3F (t2F (t1F (psN f i))); unfold t3F; rw [if_neg (fun h => c36 h.1)])
            refine lv_iinc (v := (nI (i + 1))) (lv' := [(2, .int (nI (i + 1))), (1, .int (nI n)), (0, .ref (L 0))]) hx hb dX4_letTimePass_57 hl (k := 0) rfl (nI_1 i) (by decide) rfl (fun ls hl => ?_)
            refine lv_goto (tgt := 2) hx hb dX4_letTimePass_60 (by decide) ?_
            exact ih (i + 1) (by omega) (by omega) _ _ _ _ hw hI (lv_sub hl [0, 1, 2] rfl)
          · refine lv_aload_n hx hb dX4_letTimePass_39 rfl (lv_at hl 2 rfl) ?_
            refine r_get cX inX4 hw hI.1.1 rfl 2 (by decide) wF_X4_43 rfl dX4_letTimePass_40 ?_
            refine lv_aload_n hx hb dX4_letTimePass_43 rfl (lv_at hl 2 rfl) ?_
            refine r_get cX inX4 hw hI.1.1 rfl 5 (by decide) wF_X4_52 rfl dX4_letTimePass_44 ?_
            refine r_SNi cX hw [.int ((t2F (t1F (psN f i))) 0), .int ((t2F (t1F (psN f i))) 3)] (c_X6_remainder l G ((t2F (t1F (psN f i))) 0) ((t2F (t1F (psN f i))) 3) hv2.ge3) wM_X4_87 mw_X6_remainder ⟨Nat.le_of_ble_eq_true rfl, Nat.le_of_ble_eq_true rfl⟩ rfl rfl hl.1 (Nat.le_of_ble_eq_true rfl) dX4_letTimePass_47 ⟨Nat.le_of_ble_eq_true rfl, Nat.le_of_ble_eq_true rfl⟩ (fun r M1 H locs hp hw => ?_)
            obtain ⟨hr1, hq⟩ := hp
            subst hr1
            rw [hq] at hw
            refine lv_if_ne (tgt := 57) hx hb dX4_letTimePass_50 (by decide) (fun c50 => ?_) (fun c50 => ?_)
            · have hI := hI.re (g := psN f (i + 1)) (by show _ = t3F (t2F (t1F (psN f i))); unfold t3F; rw [if_neg (fun h => c50 h.2)])
              refine lv_iinc (v := (nI (i + 1))) (lv' := [(2, .int (nI (i + 1))), (1, .int (nI n)), (0, .ref (L 0))]) hx hb dX4_letTimePass_57 hl (k := 0) rfl (nI_1 i) (by decide) rfl (fun ls hl => ?_)
              refine lv_goto (tgt := 2) hx hb dX4_letTimePass_60 (by decide) ?_
              exact ih (i + 1) (by omega) (by omega) _ _ _ _ hw hI (lv_sub hl [0, 1, 2] rfl)
            · refine lv_aload_n hx hb dX4_letTimePass_53 rfl (lv_at hl 2 rfl) ?_
              refine r_Vv cX hw hI.1.1 rfl [] (c_X4_ageEntries l G hI.1 hv2) wM_X4_123 mw_X4_ageEntries ⟨Nat.le_of_ble_eq_true rfl, Nat.le_of_ble_eq_true rfl⟩ rfl rfl hl.1 (Nat.le_of_ble_eq_true rfl) dX4_letTimePass_54 ⟨Nat.le_of_ble_eq_true rfl, Nat.le_of_ble_eq_true rfl⟩ (fun M1 H locs hp hw => ?_)
              have hI := hI.trans hp
              have hI := hI.re (g := psN f (i + 1)) (by show _ = t3F (t2F (t1F (psN f i))); unfold t3F; rw [if_pos ⟨c36, c50⟩])
              refine lv_iinc (v := (nI (i + 1))) (lv' := [(2, .int (nI (i + 1))), (1, .int (nI n)), (0, .ref (L 0))]) hx hb dX4_letTimePass_57 hl (k := 0) rfl (nI_1 i) (by decide) rfl (fun ls hl => ?_)
              refine lv_goto (tgt := 2) hx hb dX4_letTimePass_60 (by decide) ?_
              exact ih (i + 1) (by omega) (by omega) _ _ _ _ hw hI (lv_sub hl [0, 1, 2] rfl)
        · refine lv_aload_n hx hb dX4_letTimePass_27 rfl (lv_at hl 2 rfl) ?_
          refine r_Vv cX hw hI.1.1 rfl [] (c_X4_decayLoads l G hI.1 hv1) wM_X4_120 mw_X4_decayLoads ⟨Nat.le_of_ble_eq_true rfl, Nat.le_of_ble_eq_true rfl⟩ rfl rfl hl.1 (Nat.le_of_ble_eq_true rfl) dX4_letTimePass_28 ⟨Nat.le_of_ble_eq_true rfl, Nat.le_of_ble_eq_true rfl⟩ (fun M1 H locs hp hw => ?_)
          have hI := hI.trans hp
          have hI := hI.re (g := t2F (t1F (psN f i))) (by unfold t2F; rw [if_pos c24])
          have hv2 := hv1.t2.1
          refine lv_aload_n hx hb dX4_letTimePass_31 rfl (lv_at hl 2 rfl) ?_
          refine r_get cX inX4 hw hI.1.1 rfl 4 (by decide) wF_X4_49 rfl dX4_letTimePass_32 ?_
          refine lv_iconst (v := 1) hx hb dX4_letTimePass_35 (by decide) ?_
          refine lv_icmp_ne (tgt := 57) hx hb dX4_letTimePass_36 (by decide) (fun c36 => ?_) (fun c36 => ?_)
          · have hI := hI.re (g := psN f (i + 1)) (by show _ = t3F (t2F (t1F (psN f i))); unfold t3F; rw [if_neg (fun h => c36 h.1)])
            refine lv_iinc (v := (nI (i + 1))) (lv' := [(2, .int (nI (i + 1))), (1, .int (nI n)), (0, .ref (L 0))]) hx hb dX4_letTimePass_57 hl (k := 0) rfl (nI_1 i) (by decide) rfl (fun ls hl => ?_)
            refine lv_goto (tgt := 2) hx hb dX4_letTimePass_60 (by decide) ?_
            exact ih (i + 1) (by omega) (by omega) _ _ _ _ hw hI (lv_sub hl [0, 1, 2] rfl)
          · refine lv_aload_n hx hb dX4_letTimePass_39 rfl (lv_at hl 2 rfl) ?_
            refine r_get cX inX4 hw hI.1.1 rfl 2 (by decide) wF_X4_43 rfl dX4_letTimePass_40 ?_
            refine lv_aload_n hx hb dX4_letTimePass_43 rfl (lv_at hl 2 rfl) ?_
            refine r_get cX inX4 hw hI.1.1 rfl 5 (by decide) wF_X4_52 rfl dX4_letTimePass_44 ?_
            refine r_SNi cX hw [.int ((t2F (t1F (psN f i))) 0), .int ((t2F (t1F (psN f i))) 3)] (c_X6_remainder l G ((t2F (t1F (psN f i))) 0) ((t2F (t1F (psN f i))) 3) hv2.ge3) wM_X4_87 mw_X6_remainder ⟨Nat.le_of_ble_eq_true rfl, Nat.le_of_ble_eq_true rfl⟩ rfl rfl hl.1 (Nat.le_of_ble_eq_true rfl) dX4_letTimePass_47 ⟨Nat.le_of_ble_eq_true rfl, Nat.le_of_ble_eq_true rfl⟩ (fun r M1 H locs hp hw => ?_)
            obtain ⟨hr1, hq⟩ := hp
            subst hr1
            rw [hq] at hw
            refine lv_if_ne (tgt := 57) hx hb dX4_letTimePass_50 (by decide) (fun c50 => ?_) (fun c50 => ?_)
            · have hI := hI.re (g := psN f (i + 1)) (by show _ = t3F (t2F (t1F (psN f i))); unfold t3F; rw [if_neg (fun h => c50 h.2)])
              refine lv_iinc (v := (nI (i + 1))) (lv' := [(2, .int (nI (i + 1))), (1, .int (nI n)), (0, .ref (L 0))]) hx hb dX4_letTimePass_57 hl (k := 0) rfl (nI_1 i) (by decide) rfl (fun ls hl => ?_)
              refine lv_goto (tgt := 2) hx hb dX4_letTimePass_60 (by decide) ?_
              exact ih (i + 1) (by omega) (by omega) _ _ _ _ hw hI (lv_sub hl [0, 1, 2] rfl)
            · refine lv_aload_n hx hb dX4_letTimePass_53 rfl (lv_at hl 2 rfl) ?_
              refine r_Vv cX hw hI.1.1 rfl [] (c_X4_ageEntries l G hI.1 hv2) wM_X4_123 mw_X4_ageEntries ⟨Nat.le_of_ble_eq_true rfl, Nat.le_of_ble_eq_true rfl⟩ rfl rfl hl.1 (Nat.le_of_ble_eq_true rfl) dX4_letTimePass_54 ⟨Nat.le_of_ble_eq_true rfl, Nat.le_of_ble_eq_true rfl⟩ (fun M1 H locs hp hw => ?_)
              have hI := hI.trans hp
              have hI := hI.re (g := psN f (i + 1)) (by show _ = t3F (t2F (t1F (psN f i))); unfold t3F; rw [if_pos ⟨c36, c50⟩])
              refine lv_iinc (v := (nI (i + 1))) (lv' := [(2, .int (nI (i + 1))), (1, .int (nI n)), (0, .ref (L 0))]) hx hb dX4_letTimePass_57 hl (k := 0) rfl (nI_1 i) (by decide) rfl (fun ls hl => ?_)
              refine lv_goto (tgt := 2) hx hb dX4_letTimePass_60 (by decide) ?_
              exact ih (i + 1) (by omega) (by omega) _ _ _ _ hw hI (lv_sub hl [0, 1, 2] rfl)
  exact lp2 (n + 1) 0 (by omega) (by omega) _ _ _ _ hw hI (lv_sub hl [0, 2, 1] rfl)

set_option maxHeartbeats 4000000 in
set_option maxRecDepth 100000 in
theorem c_X4_usesTable (l : Launch) (G : gG) {M : HM} {L : Nat → Nat} {f : Nat → Int32} (hI0 : IsSt G M L f) : Ci l yX4_usesTable cX4_usesTable 1 .boolean (rd 0 0 0) G [.ref (L 0)] M (fun r M' => r = (if f 5 = 1 ∨ f 5 = 3 then 1 else 0) ∧ M' = M) := by
  refine Ci.of (by decide) (Nat.le_of_ble_eq_true rfl) ?_
  intro p e s m args below meth c ls cX hw hlocks hr hl
  have hx := cX.1
  have hb := cX.2.1
  have hl : lv_has ls 1 [(0, .ref (L 0))] := hl
  have hI := hI0.st
  refine lv_aload_n hx hb dX4_usesTable_0 rfl (lv_at hl 0 rfl) ?_
  refine r_get cX inX4 hw hI.1.1 rfl 3 (by decide) wF_X4_46 rfl dX4_usesTable_1 ?_
  refine lv_iconst (v := 1) hx hb dX4_usesTable_4 (by decide) ?_
  refine lv_icmp_eq (tgt := 16) hx hb dX4_usesTable_5 (by decide) (fun c5 => ?_) (fun c5 => ?_)
  · refine lv_iconst (v := 1) hx hb dX4_usesTable_16 (by decide) ?_
    refine lv_goto (tgt := 21) hx hb dX4_usesTable_17 (by decide) ?_
    exact r_zret cX hr hlocks rfl hw ⟨(if_pos (Or.inl c5)).symm, rfl⟩ dX4_usesTable_21
  · refine lv_aload_n hx hb dX4_usesTable_8 rfl (lv_at hl 0 rfl) ?_
    refine r_get cX inX4 hw hI.1.1 rfl 3 (by decide) wF_X4_46 rfl dX4_usesTable_9 ?_
    refine lv_iconst (v := 3) hx hb dX4_usesTable_12 (by decide) ?_
    refine lv_icmp_ne (tgt := 20) hx hb dX4_usesTable_13 (by decide) (fun c13 => ?_) (fun c13 => ?_)
    · refine lv_iconst (v := 0) hx hb dX4_usesTable_20 (by decide) ?_
      exact r_zret cX hr hlocks rfl hw ⟨(if_neg (fun h => h.elim c5 c13)).symm, rfl⟩ dX4_usesTable_21
    · refine lv_iconst (v := 1) hx hb dX4_usesTable_16 (by decide) ?_
      refine lv_goto (tgt := 21) hx hb dX4_usesTable_17 (by decide) ?_
      exact r_zret cX hr hlocks rfl hw ⟨(if_pos (Or.inr c13)).symm, rfl⟩ dX4_usesTable_21

set_option maxHeartbeats 4000000 in
set_option maxRecDepth 100000 in
theorem c_X4_nextGenerator (l : Launch) (G : gG) {M : HM} {L : Nat → Nat} {f : Nat → Int32} (hI0 : IsSt G M L f) : Ci l yX4_nextGenerator cX4_nextGenerator 1 .int (rd 0 0 0) G [.ref (L 0)] M (fun r M' => r = nx (f 7) ∧ M' = M) := by
  refine Ci.of (by decide) (Nat.le_of_ble_eq_true rfl) ?_
  intro p e s m args below meth c ls cX hw hlocks hr hl
  have hx := cX.1
  have hb := cX.2.1
  have hl : lv_has ls 1 [(0, .ref (L 0))] := hl
  have hI := hI0.st
  refine lv_ldc (v := 1103515245) hx hb cX.2.2.2.1 (cX.2.2.2.2.ts _ wK_X4_150) dX4_nextGenerator_0 ?_
  refine lv_aload_n hx hb dX4_nextGenerator_2 rfl (lv_at hl 0 rfl) ?_
  refine r_get cX inX4 hw hI.1.1 rfl 7 (by decide) wF_X4_58 rfl dX4_nextGenerator_3 ?_
  refine lv_imul hx hb dX4_nextGenerator_6 ?_
  refine lv_sipush (v := 12345) hx hb dX4_nextGenerator_7 (by decide) ?_
  refine lv_iadd hx hb dX4_nextGenerator_10 ?_
  refine lv_ldc (v := 2147483647) hx hb cX.2.2.2.1 (cX.2.2.2.2.ts _ wK_X4_151) dX4_nextGenerator_11 ?_
  refine lv_iand hx hb dX4_nextGenerator_13 ?_
  exact r_iret cX hr hlocks hw ⟨rfl, rfl⟩ dX4_nextGenerator_14

set_option maxHeartbeats 4000000 in
set_option maxRecDepth 100000 in
theorem c_X4_randomPath (l : Launch) (G : gG) {M : HM} {L : Nat → Nat} {f : Nat → Int32} (hI0 : IsSt G M L f) (h1 : 1 ≤ f 1) : Ci l yX4_randomPath cX4_randomPath 1 .int (rd 1 0 0) G [.ref (L 0)] M (fun r M' => r = jr (nx (f 7) / 65536) (f 1) ∧ M' = M) := by
  refine Ci.of (by decide) (Nat.le_of_ble_eq_true rfl) ?_
  intro p e s m args below meth c ls cX hw hlocks hr hl
  have hx := cX.1
  have hb := cX.2.1
  have hl : lv_has ls 1 [(0, .ref (L 0))] := hl
  have hI := hI0.st
  refine lv_aload_n hx hb dX4_randomPath_0 rfl (lv_at hl 0 rfl) ?_
  refine r_Vi cX hw hI.1.1 rfl [] (c_X4_nextGenerator l G hI.1) wM_X4_146 mw_X4_nextGenerator ⟨Nat.le_of_ble_eq_true rfl, Nat.le_of_ble_eq_true rfl⟩ rfl rfl hl.1 (Nat.le_of_ble_eq_true rfl) dX4_randomPath_1 ⟨Nat.le_of_ble_eq_true rfl, Nat.le_of_ble_eq_true rfl⟩ (fun r M1 H locs hp hw => ?_)
  obtain ⟨hr1, hq⟩ := hp
  subst hr1
  rw [hq] at hw
  refine lv_ldc (v := 65536) hx hb cX.2.2.2.1 (cX.2.2.2.2.ts _ wK_X4_149) dX4_randomPath_4 ?_
  refine lv_idiv hx hb dX4_randomPath_6 (by decide) ?_
  refine lv_aload_n hx hb dX4_randomPath_7 rfl (lv_at hl 0 rfl) ?_
  refine r_get cX inX4 hw hI.1.1 rfl 0 (by decide) wF_X4_36 rfl dX4_randomPath_8 ?_
  refine r_SNi cX hw [.int ((nx (f 7)) / 65536), .int (f 1)] (c_X6_remainder l G ((nx (f 7)) / 65536) (f 1) h1) wM_X4_87 mw_X6_remainder ⟨Nat.le_of_ble_eq_true rfl, Nat.le_of_ble_eq_true rfl⟩ rfl rfl hl.1 (Nat.le_of_ble_eq_true rfl) dX4_randomPath_11 ⟨Nat.le_of_ble_eq_true rfl, Nat.le_of_ble_eq_true rfl⟩ (fun r M1 H locs hp hw => ?_)
  obtain ⟨hr1, hq⟩ := hp
  subst hr1
  rw [hq] at hw
  exact r_iret cX hr hlocks hw ⟨rfl, rfl⟩ dX4_randomPath_14

set_option maxHeartbeats 4000000 in
set_option maxRecDepth 100000 in
theorem c_X4_leastCongestedPath (l : Launch) (G : gG) {M : HM} {L : Nat → Nat} {f : Nat → Int32} (hI0 : IsSt G M L f) {B : Nat} (hv : Inv B f) (had : Int32) (hh : had = -9 ∨ ∃ k, k < nP f ∧ had = nI k) : Ci l yX4_leastCongestedPath cX4_leastCongestedPath 4 .int (rd 2 0 0) G [.ref (L 0), .int had] M (fun r M' => r = llF f had ∧ M' = M) := by
  obtain ⟨e1, e2, e3⟩ := hv.P
  refine Ci.of (by decide) (Nat.le_of_ble_eq_true rfl) ?_
  intro p e s m args below meth c ls cX hw hlocks hr hl
  have hx := cX.1
  have hb := cX.2.1
  have hl : lv_has ls 4 [(0, .ref (L 0)), (1, .int had)] := hl
  have hI := hI0.st
  refine lv_iconst (v := 0) hx hb dX4_leastCongestedPath_0 (by decide) ?_
  refine lv_istore_n (lv' := [(2, .int 0), (0, .ref (L 0)), (1, .int had)]) hx hb dX4_leastCongestedPath_1 rfl hl (by decide) rfl (fun ls hl => ?_)
  refine lv_iconst (v := 1) hx hb dX4_leastCongestedPath_2 (by decide) ?_
  refine lv_istore_n (lv' := [(3, .int 1), (2, .int 0), (0, .ref (L 0)), (1, .int had)]) hx hb dX4_leastCongestedPath_3 rfl hl (by decide) rfl (fun ls hl => ?_)
  have lp4 : ∀ (nn i : Nat), i ≤ nP f - 1 → nP f - 1 < i + nn → ∀ (H : Heap) (locs : List Loc) (ls : Array Slot), Wd G (dm M s.heap.size) s.heap M H locs → lv_has ls 4 [(3, .int (nI (i + 1))), (2, .int (nI (bs f i))), (1, .int had), (0, .ref (L 0))] → W p l e (rd 2 0 0) s m args below meth c H locs 0 0 (MQ below (QI G M s.heap.size (fun r M' => r = llF f had ∧ M' = M)) args s 0 0 (dm M s.heap.size)) (F0 m 4 ls []) := by
    intro nn
    induction nn with
    | zero =>
      intro i h1 h2
      exact absurd h2 (by omega)
    | succ nn ih =>
      intro i hi hin H locs ls hw hl
      refine lv_iload_n hx hb dX4_leastCongestedPath_4 rfl (lv_at hl 0 rfl) ?_
      refine lv_aload_n hx hb dX4_leastCongestedPath_5 rfl (lv_at hl 3 rfl) ?_
      refine r_get cX inX4 hw hI.1.1 rfl 0 (by decide) wF_X4_36 rfl dX4_leastCongestedPath_6 ?_
      refine lv_icmp_ge (tgt := 41) hx hb dX4_leastCongestedPath_9 (by decide) (fun c9 => ?_) (fun c9 => ?_)
      · obtain rfl : i = nP f - 1 := Nat.le_antisymm hi (by have := ix_ge (a := i + 1) (b := nP f) (by omega) (by omega) (by rw [← e3]; exact c9); omega)
        rcases hh with hh | ⟨k, hk, hh⟩
        · subst hh
          refine lv_aload_n hx hb dX4_leastCongestedPath_41 rfl (lv_at hl 3 rfl) ?_
          refine lv_iload_n hx hb dX4_leastCongestedPath_42 rfl (lv_at hl 2 rfl) ?_
          refine r_Vi cX hw hI.1.1 rfl [.int (-9)] (c_X4_hasPath l G hI.1 (-9)) wM_X4_82 mw_X4_hasPath ⟨Nat.le_of_ble_eq_true rfl, Nat.le_of_ble_eq_true rfl⟩ rfl rfl hl.1 (Nat.le_of_ble_eq_true rfl) dX4_leastCongestedPath_43 ⟨Nat.le_of_ble_eq_true rfl, Nat.le_of_ble_eq_true rfl⟩ (fun r M1 H locs hp hw => ?_)
          obtain ⟨hr1, hq⟩ := hp
          subst hr1
          rw [hq] at hw
          refine lv_if_eq (tgt := 74) hx hb dX4_leastCongestedPath_46 (by decide) (fun c46 => ?_) (fun c46 => ?_)
          · refine lv_iconst (v := 0) hx hb dX4_leastCongestedPath_74 (by decide) ?_
            refine lv_istore_n (lv' := [(3, .int 0), (2, .int (nI (bs f (nP f - 1)))), (1, .int (-9)), (0, .ref (L 0))]) hx hb dX4_leastCongestedPath_75 rfl hl (by decide) rfl (fun ls hl => ?_)
            refine lv_iload_n hx hb dX4_leastCongestedPath_76 rfl (lv_at hl 0 rfl) ?_
            refine lv_if_eq (tgt := 84) hx hb dX4_leastCongestedPath_77 (by decide) (fun c77 => ?_) (fun c77 => ?_)
            · refine lv_iload_n hx hb dX4_leastCongestedPath_84 rfl (lv_at hl 1 rfl) ?_
              exact r_iret cX hr hlocks hw ⟨by unfold llF; rw [if_neg (fun h => h.1 rfl)], rfl⟩ dX4_leastCongestedPath_85
            · exact absurd rfl c77
          · exact absurd (if_neg (fun h => absurd h.1 (by decide))) c46
        · subst hh
          refine lv_aload_n hx hb dX4_leastCongestedPath_41 rfl (lv_at hl 3 rfl) ?_
          refine lv_iload_n hx hb dX4_leastCongestedPath_42 rfl (lv_at hl 2 rfl) ?_
          refine r_Vi cX hw hI.1.1 rfl [.int (nI k)] (c_X4_hasPath l G hI.1 (nI k)) wM_X4_82 mw_X4_hasPath ⟨Nat.le_of_ble_eq_true rfl, Nat.le_of_ble_eq_true rfl⟩ rfl rfl hl.1 (Nat.le_of_ble_eq_true rfl) dX4_leastCongestedPath_43 ⟨Nat.le_of_ble_eq_true rfl, Nat.le_of_ble_eq_true rfl⟩ (fun r M1 H locs hp hw => ?_)
          obtain ⟨hr1, hq⟩ := hp
          subst hr1
          rw [hq] at hw
          refine lv_if_eq (tgt := 74) hx hb dX4_leastCongestedPath_46 (by decide) (fun c46 => ?_) (fun c46 => ?_)
          · exact absurd c46 (by rw [if_pos ⟨nI_pos' (by omega), by rw [e3]; exact nI_lep hk (by omega)⟩]; decide)
          · refine lv_aload_n hx hb dX4_leastCongestedPath_49 rfl (lv_at hl 3 rfl) ?_
            refine r_get cX inX4 hw hI.1.1 rfl 9 (by decide) wF_X4_11 rfl dX4_leastCongestedPath_50 ?_
            refine lv_iload_n hx hb dX4_leastCongestedPath_53 rfl (lv_at hl 2 rfl) ?_
            obtain ⟨g_9, hg_9, hg_9_⟩ := hI.1.2.1
            refine r_aald cX hw 4 rfl hg_9 k rfl (by omega) (by decide) (hg_9_ k (by omega)) dX4_leastCongestedPath_54 ?_
            refine r_Vi cX hw (hI.1.2.2.2.2.1 k (by omega)) rfl [] (c_X2_congestion l G (hI.1.2.2.2.2.1 k (by omega))) wM_X4_143 mw_X2_congestion ⟨Nat.le_of_ble_eq_true rfl, Nat.le_of_ble_eq_true rfl⟩ rfl rfl hl.1 (Nat.le_of_ble_eq_true rfl) dX4_leastCongestedPath_55 ⟨Nat.le_of_ble_eq_true rfl, Nat.le_of_ble_eq_true rfl⟩ (fun r M1 H locs hp hw => ?_)
            obtain ⟨hr1, hq⟩ := hp
            subst hr1
            rw [hq] at hw
            refine lv_aload_n hx hb dX4_leastCongestedPath_58 rfl (lv_at hl 3 rfl) ?_
            refine r_get cX inX4 hw hI.1.1 rfl 9 (by decide) wF_X4_11 rfl dX4_leastCongestedPath_59 ?_
            refine lv_iload_n hx hb dX4_leastCongestedPath_62 rfl (lv_at hl 1 rfl) ?_
            obtain ⟨g_10, hg_10, hg_10_⟩ := hI.1.2.1
            refine r_aald cX hw 4 rfl hg_10 (bs f (nP f - 1)) rfl (by have := bs_le f (nP f - 1); omega) (by decide) (hg_10_ (bs f (nP f - 1)) (by have := bs_le f (nP f - 1); omega)) dX4_leastCongestedPath_63 ?_
            refine r_Vi cX hw (hI.1.2.2.2.2.1 (bs f (nP f - 1)) (by have := bs_le f (nP f - 1); omega)) rfl [] (c_X2_congestion l G (hI.1.2.2.2.2.1 (bs f (nP f - 1)) (by have := bs_le f (nP f - 1); omega))) wM_X4_143 mw_X2_congestion ⟨Nat.le_of_ble_eq_true rfl, Nat.le_of_ble_eq_true rfl⟩ rfl rfl hl.1 (Nat.le_of_ble_eq_true rfl) dX4_leastCongestedPath_64 ⟨Nat.le_of_ble_eq_true rfl, Nat.le_of_ble_eq_true rfl⟩ (fun r M1 H locs hp hw => ?_)
            obtain ⟨hr1, hq⟩ := hp
            subst hr1
            rw [hq] at hw
            refine lv_icmp_ne (tgt := 74) hx hb dX4_leastCongestedPath_67 (by decide) (fun c67 => ?_) (fun c67 => ?_)
            · refine lv_iconst (v := 0) hx hb dX4_leastCongestedPath_74 (by decide) ?_
              refine lv_istore_n (lv' := [(3, .int 0), (2, .int (nI (bs f (nP f - 1)))), (1, .int (nI k)), (0, .ref (L 0))]) hx hb dX4_leastCongestedPath_75 rfl hl (by decide) rfl (fun ls hl => ?_)
              refine lv_iload_n hx hb dX4_leastCongestedPath_76 rfl (lv_at hl 0 rfl) ?_
              refine lv_if_eq (tgt := 84) hx hb dX4_leastCongestedPath_77 (by decide) (fun c77 => ?_) (fun c77 => ?_)
              · refine lv_iload_n hx hb dX4_leastCongestedPath_84 rfl (lv_at hl 1 rfl) ?_
                exact r_iret cX hr hlocks hw ⟨by unfold llF; rw [if_neg (fun h => c67 (by have h2 := h.2; rw [nI_clamp (by omega)] at h2; exact h2))], rfl⟩ dX4_leastCongestedPath_85
              · exact absurd rfl c77
            · refine lv_iconst (v := 1) hx hb dX4_leastCongestedPath_70 (by decide) ?_
              refine lv_goto (tgt := 75) hx hb dX4_leastCongestedPath_71 (by decide) ?_
              refine lv_istore_n (lv' := [(3, .int 1), (2, .int (nI (bs f (nP f - 1)))), (1, .int (nI k)), (0, .ref (L 0))]) hx hb dX4_leastCongestedPath_75 rfl hl (by decide) rfl (fun ls hl => ?_)
              refine lv_iload_n hx hb dX4_leastCongestedPath_76 rfl (lv_at hl 0 rfl) ?_
              refine lv_if_eq (tgt := 84) hx hb dX4_leastCongestedPath_77 (by decide) (fun c77 => ?_) (fun c77 => ?_)
              · exact absurd c77 (by decide)
              · refine lv_iload_n hx hb dX4_leastCongestedPath_80 rfl (lv_at hl 2 rfl) ?_
                refine lv_goto (tgt := 85) hx hb dX4_leastCongestedPath_81 (by decide) ?_
                exact r_iret cX hr hlocks hw ⟨by unfold llF; rw [if_pos ⟨nI_ne9 (by omega), by rw [nI_clamp (by omega)]; exact c67⟩], rfl⟩ dX4_leastCongestedPath_85
      · have hlt : i + 1 < nP f := ix_lt (by omega) (by rw [← e3]; exact c9)
        refine lv_aload_n hx hb dX4_leastCongestedPath_12 rfl (lv_at hl 3 rfl) ?_
        refine r_get cX inX4 hw hI.1.1 rfl 9 (by decide) wF_X4_11 rfl dX4_leastCongestedPath_13 ?_
        refine lv_iload_n hx hb dX4_leastCongestedPath_16 rfl (lv_at hl 0 rfl) ?_
        obtain ⟨g_11, hg_11, hg_11_⟩ := hI.1.2.1
        refine r_aald cX hw 4 rfl hg_11 (i + 1) rfl (by omega) (by decide) (hg_11_ (i + 1) (by omega)) dX4_leastCongestedPath_17 ?_
        refine r_Vi cX hw (hI.1.2.2.2.2.1 (i + 1) (by omega)) rfl [] (c_X2_congestion l G (hI.1.2.2.2.2.1 (i + 1) (by omega))) wM_X4_143 mw_X2_congestion ⟨Nat.le_of_ble_eq_true rfl, Nat.le_of_ble_eq_true rfl⟩ rfl rfl hl.1 (Nat.le_of_ble_eq_true rfl) dX4_leastCongestedPath_18 ⟨Nat.le_of_ble_eq_true rfl, Nat.le_of_ble_eq_true rfl⟩ (fun r M1 H locs hp hw => ?_)
        obtain ⟨hr1, hq⟩ := hp
        subst hr1
        rw [hq] at hw
        refine lv_aload_n hx hb dX4_leastCongestedPath_21 rfl (lv_at hl 3 rfl) ?_
        refine r_get cX inX4 hw hI.1.1 rfl 9 (by decide) wF_X4_11 rfl dX4_leastCongestedPath_22 ?_
        refine lv_iload_n hx hb dX4_leastCongestedPath_25 rfl (lv_at hl 1 rfl) ?_
        obtain ⟨g_12, hg_12, hg_12_⟩ := hI.1.2.1
        refine r_aald cX hw 4 rfl hg_12 (bs f i) rfl (by have := bs_le f i; omega) (by decide) (hg_12_ (bs f i) (by have := bs_le f i; omega)) dX4_leastCongestedPath_26 ?_
        refine r_Vi cX hw (hI.1.2.2.2.2.1 (bs f i) (by have := bs_le f i; omega)) rfl [] (c_X2_congestion l G (hI.1.2.2.2.2.1 (bs f i) (by have := bs_le f i; omega))) wM_X4_143 mw_X2_congestion ⟨Nat.le_of_ble_eq_true rfl, Nat.le_of_ble_eq_true rfl⟩ rfl rfl hl.1 (Nat.le_of_ble_eq_true rfl) dX4_leastCongestedPath_27 ⟨Nat.le_of_ble_eq_true rfl, Nat.le_of_ble_eq_true rfl⟩ (fun r M1 H locs hp hw => ?_)
        obtain ⟨hr1, hq⟩ := hp
        subst hr1
        rw [hq] at hw
        refine lv_icmp_ge (tgt := 35) hx hb dX4_leastCongestedPath_30 (by decide) (fun c30 => ?_) (fun c30 => ?_)
        · have hbs : bs f (i + 1) = bs f i := if_neg (Int32.not_lt.mpr c30)
          have hl : lv_has ls 4 [(3, .int (nI (i + 1))), (2, .int (nI (bs f (i + 1)))), (1, .int had), (0, .ref (L 0))] := by rw [hbs]; exact hl
          refine lv_iinc (v := (nI ((i + 1) + 1))) (lv' := [(3, .int (nI ((i + 1) + 1))), (2, .int (nI (bs f (i + 1)))), (1, .int had), (0, .ref (L 0))]) hx hb dX4_leastCongestedPath_35 hl (k := 0) rfl (nI_1 (i + 1)) (by decide) rfl (fun ls hl => ?_)
          refine lv_goto (tgt := 4) hx hb dX4_leastCongestedPath_38 (by decide) ?_
          exact ih (i + 1) (by omega) (by omega) _ _ _ hw (lv_sub hl [0, 1, 2, 3] rfl)
        · refine lv_iload_n hx hb dX4_leastCongestedPath_33 rfl (lv_at hl 0 rfl) ?_
          refine lv_istore_n (lv' := [(2, .int (nI (i + 1))), (3, .int (nI (i + 1))), (1, .int had), (0, .ref (L 0))]) hx hb dX4_leastCongestedPath_34 rfl hl (by decide) rfl (fun ls hl => ?_)
          have hbs : bs f (i + 1) = i + 1 := if_pos (Int32.not_le.mp c30)
          have hl : lv_has ls 4 [(2, .int (nI (bs f (i + 1)))), (3, .int (nI (i + 1))), (1, .int had), (0, .ref (L 0))] := by rw [hbs]; exact hl
          refine lv_iinc (v := (nI ((i + 1) + 1))) (lv' := [(3, .int (nI ((i + 1) + 1))), (2, .int (nI (bs f (i + 1)))), (1, .int had), (0, .ref (L 0))]) hx hb dX4_leastCongestedPath_35 hl (k := 1) rfl (nI_1 (i + 1)) (by decide) rfl (fun ls hl => ?_)
          refine lv_goto (tgt := 4) hx hb dX4_leastCongestedPath_38 (by decide) ?_
          exact ih (i + 1) (by omega) (by omega) _ _ _ hw (lv_sub hl [0, 1, 2, 3] rfl)
  exact lp4 (nP f - 1 + 1) 0 (by omega) (by omega) _ _ _ hw (lv_sub hl [0, 1, 3, 2] rfl)

set_option maxHeartbeats 4000000 in
set_option maxRecDepth 100000 in
theorem c_X4_pathFor (l : Launch) (G : gG) {M : HM} {L : Nat → Nat} {f : Nat → Int32} (hI0 : IsSt G M L f) {B : Nat} (hv : Inv B f) (k : Nat) (hk : k < 16) : Ci l yX4_pathFor cX4_pathFor 3 .int (rd 3 0 0) G [.ref (L 0), .int (nI k)] M (fun r M' => r = chF f k ∧ M' = M) := by
  refine Ci.of (by decide) (Nat.le_of_ble_eq_true rfl) ?_
  intro p e s m args below meth c ls cX hw hlocks hr hl
  have hx := cX.1
  have hb := cX.2.1
  have hl : lv_has ls 3 [(0, .ref (L 0)), (1, .int (nI k))] := hl
  have hI := hI0.st
  refine lv_aload_n hx hb dX4_pathFor_0 rfl (lv_at hl 0 rfl) ?_
  refine r_get cX inX4 hw hI.1.1 rfl 3 (by decide) wF_X4_46 rfl dX4_pathFor_1 ?_
  refine lv_if_ne (tgt := 16) hx hb dX4_pathFor_4 (by decide) (fun c4 => ?_) (fun c4 => ?_)
  · refine lv_aload_n hx hb dX4_pathFor_16 rfl (lv_at hl 0 rfl) ?_
    refine r_get cX inX4 hw hI.1.1 rfl 3 (by decide) wF_X4_46 rfl dX4_pathFor_17 ?_
    refine lv_iconst (v := 2) hx hb dX4_pathFor_20 (by decide) ?_
    refine lv_icmp_ne (tgt := 29) hx hb dX4_pathFor_21 (by decide) (fun c21 => ?_) (fun c21 => ?_)
    · refine lv_aload_n hx hb dX4_pathFor_29 rfl (lv_at hl 0 rfl) ?_
      refine r_get cX inX4 hw hI.1.1 rfl 10 (by decide) wF_X4_19 rfl dX4_pathFor_30 ?_
      refine lv_aload_n hx hb dX4_pathFor_33 rfl (lv_at hl 0 rfl) ?_
      refine lv_iload_n hx hb dX4_pathFor_34 rfl (lv_at hl 1 rfl) ?_
      refine r_Vi cX hw hI.1.1 rfl [.int (nI k)] (c_X4_entryNumber l G hI.1 (nI k) hv.ge2) wM_X4_91 mw_X4_entryNumber ⟨Nat.le_of_ble_eq_true rfl, Nat.le_of_ble_eq_true rfl⟩ rfl rfl hl.1 (Nat.le_of_ble_eq_true rfl) dX4_pathFor_35 ⟨Nat.le_of_ble_eq_true rfl, Nat.le_of_ble_eq_true rfl⟩ (fun r M1 H locs hp hw => ?_)
      obtain ⟨hr1, hq⟩ := hp
      subst hr1
      rw [hq] at hw
      obtain ⟨g_13, hg_13, hg_13_⟩ := hI.1.2.2.1
      refine r_aald cX hw 2 rfl hg_13 (eN f k) (eN_eq hv k hk) (eN_lt hv k).2 (by decide) (hg_13_ (eN f k) (eN_lt hv k).2) dX4_pathFor_38 ?_
      refine lv_astore_n (lv' := [(2, .ref (L (8 + (eN f k)))), (0, .ref (L 0)), (1, .int (nI k))]) hx hb dX4_pathFor_39 rfl hl (by decide) rfl (fun ls hl => ?_)
      refine lv_aload_n hx hb dX4_pathFor_40 rfl (lv_at hl 1 rfl) ?_
      refine lv_aload_n hx hb dX4_pathFor_41 rfl (lv_at hl 0 rfl) ?_
      refine r_Vi cX hw hI.1.1 rfl [.ref (L (8 + (eN f k)))] (c_X4_isInUse l G hI.1 (eN f k) (eN_lt hv k).2) wM_X4_102 mw_X4_isInUse ⟨Nat.le_of_ble_eq_true rfl, Nat.le_of_ble_eq_true rfl⟩ rfl rfl hl.1 (Nat.le_of_ble_eq_true rfl) dX4_pathFor_42 ⟨Nat.le_of_ble_eq_true rfl, Nat.le_of_ble_eq_true rfl⟩ (fun r M1 H locs hp hw => ?_)
      obtain ⟨hr1, hq⟩ := hp
      subst hr1
      rw [hq] at hw
      refine lv_if_eq (tgt := 53) hx hb dX4_pathFor_45 (by decide) (fun c45 => ?_) (fun c45 => ?_)
      · refine lv_aload_n hx hb dX4_pathFor_53 rfl (lv_at hl 1 rfl) ?_
        refine r_get cX inX4 hw hI.1.1 rfl 3 (by decide) wF_X4_46 rfl dX4_pathFor_54 ?_
        refine lv_iconst (v := 1) hx hb dX4_pathFor_57 (by decide) ?_
        refine lv_icmp_ne (tgt := 72) hx hb dX4_pathFor_58 (by decide) (fun c58 => ?_) (fun c58 => ?_)
        · refine lv_aload_n hx hb dX4_pathFor_72 rfl (lv_at hl 1 rfl) ?_
          refine r_Vi cX hw hI.1.1 rfl [] (c_X4_randomPath l G hI.1 hv.ge1) wM_X4_139 mw_X4_randomPath ⟨Nat.le_of_ble_eq_true rfl, Nat.le_of_ble_eq_true rfl⟩ rfl rfl hl.1 (Nat.le_of_ble_eq_true rfl) dX4_pathFor_73 ⟨Nat.le_of_ble_eq_true rfl, Nat.le_of_ble_eq_true rfl⟩ (fun r M1 H locs hp hw => ?_)
          obtain ⟨hr1, hq⟩ := hp
          subst hr1
          rw [hq] at hw
          exact r_iret cX hr hlocks hw ⟨by unfold chF; rw [if_neg c4, if_neg c21, if_neg (if01e c45), if_neg c58], rfl⟩ dX4_pathFor_76
        · refine lv_aload_n hx hb dX4_pathFor_61 rfl (lv_at hl 1 rfl) ?_
          refine lv_aload_n hx hb dX4_pathFor_62 rfl (lv_at hl 0 rfl) ?_
          refine r_get cX inX0 hw (hI.1.2.2.2.2.2.1 (eN f k) (eN_lt hv k).2) rfl 1 (by decide) wF_X4_133 rfl dX4_pathFor_63 ?_
          refine r_Vi cX hw hI.1.1 rfl [.int (f (49 + (eN f k)))] (c_X4_leastCongestedPath l G hI.1 hv (f (49 + (eN f k))) (hv.2.2.2.2.2.2.2.2 (eN f k) (eN_lt hv k).2).2.2.1) wM_X4_136 mw_X4_leastCongestedPath ⟨Nat.le_of_ble_eq_true rfl, Nat.le_of_ble_eq_true rfl⟩ rfl rfl hl.1 (Nat.le_of_ble_eq_true rfl) dX4_pathFor_66 ⟨Nat.le_of_ble_eq_true rfl, Nat.le_of_ble_eq_true rfl⟩ (fun r M1 H locs hp hw => ?_)
          obtain ⟨hr1, hq⟩ := hp
          subst hr1
          rw [hq] at hw
          refine lv_goto (tgt := 76) hx hb dX4_pathFor_69 (by decide) ?_
          exact r_iret cX hr hlocks hw ⟨by unfold chF; rw [if_neg c4, if_neg c21, if_neg (if01e c45), if_pos c58], rfl⟩ dX4_pathFor_76
      · refine lv_aload_n hx hb dX4_pathFor_48 rfl (lv_at hl 0 rfl) ?_
        refine r_get cX inX0 hw (hI.1.2.2.2.2.2.1 (eN f k) (eN_lt hv k).2) rfl 1 (by decide) wF_X4_133 rfl dX4_pathFor_49 ?_
        exact r_iret cX hr hlocks hw ⟨by unfold chF; rw [if_neg c4, if_neg c21, if_pos (if01n c45)], rfl⟩ dX4_pathFor_52
    · refine lv_aload_n hx hb dX4_pathFor_24 rfl (lv_at hl 0 rfl) ?_
      refine r_get cX inX4 hw hI.1.1 rfl 8 (by decide) wF_X4_61 rfl dX4_pathFor_25 ?_
      exact r_iret cX hr hlocks hw ⟨by unfold chF; rw [if_neg c4, if_pos c21], rfl⟩ dX4_pathFor_28
  · refine lv_iload_n hx hb dX4_pathFor_7 rfl (lv_at hl 1 rfl) ?_
    refine lv_aload_n hx hb dX4_pathFor_8 rfl (lv_at hl 0 rfl) ?_
    refine r_get cX inX4 hw hI.1.1 rfl 0 (by decide) wF_X4_36 rfl dX4_pathFor_9 ?_
    refine r_SNi cX hw [.int (nI k), .int (f 1)] (c_X6_remainder l G (nI k) (f 1) hv.ge1) wM_X4_87 mw_X6_remainder ⟨Nat.le_of_ble_eq_true rfl, Nat.le_of_ble_eq_true rfl⟩ rfl rfl hl.1 (Nat.le_of_ble_eq_true rfl) dX4_pathFor_12 ⟨Nat.le_of_ble_eq_true rfl, Nat.le_of_ble_eq_true rfl⟩ (fun r M1 H locs hp hw => ?_)
    obtain ⟨hr1, hq⟩ := hp
    subst hr1
    rw [hq] at hw
    exact r_iret cX hr hlocks hw ⟨by obtain ⟨e1, e2, e3⟩ := hv.P; unfold chF; rw [if_pos c4, e3, jr_nI (by omega) (by omega) (by omega)], rfl⟩ dX4_pathFor_15

set_option maxHeartbeats 4000000 in
set_option maxRecDepth 100000 in
theorem c_X4_noteInTable (l : Launch) (G : gG) {M : HM} {L : Nat → Nat} {f : Nat → Int32} (hI0 : IsSt G M L f) {B : Nat} (hv : Inv B f) (k : Nat) (hk : k < 16) (cc : Int32) : Cv l yX4_noteInTable cX4_noteInTable 4 (rd 2 0 0) G [.ref (L 0), .int (nI k), .int cc] M (fun M' => St G M M' L (tabF f k cc)) := by
  refine Cv.of (by decide) (Nat.le_of_ble_eq_true rfl) ?_
  intro p e s m args below meth c ls cX hw hlocks hr hnm hl
  have hx := cX.1
  have hb := cX.2.1
  have hl : lv_has ls 4 [(0, .ref (L 0)), (1, .int (nI k)), (2, .int cc)] := hl
  have hI := hI0.st
  refine lv_aload_n hx hb dX4_noteInTable_0 rfl (lv_at hl 0 rfl) ?_
  refine r_get cX inX4 hw hI.1.1 rfl 10 (by decide) wF_X4_19 rfl dX4_noteInTable_1 ?_
  refine lv_aload_n hx hb dX4_noteInTable_4 rfl (lv_at hl 0 rfl) ?_
  refine lv_iload_n hx hb dX4_noteInTable_5 rfl (lv_at hl 1 rfl) ?_
  refine r_Vi cX hw hI.1.1 rfl [.int (nI k)] (c_X4_entryNumber l G hI.1 (nI k) hv.ge2) wM_X4_91 mw_X4_entryNumber ⟨Nat.le_of_ble_eq_true rfl, Nat.le_of_ble_eq_true rfl⟩ rfl rfl hl.1 (Nat.le_of_ble_eq_true rfl) dX4_noteInTable_6 ⟨Nat.le_of_ble_eq_true rfl, Nat.le_of_ble_eq_true rfl⟩ (fun r M1 H locs hp hw => ?_)
  obtain ⟨hr1, hq⟩ := hp
  subst hr1
  rw [hq] at hw
  obtain ⟨g_14, hg_14, hg_14_⟩ := hI.1.2.2.1
  refine r_aald cX hw 2 rfl hg_14 (eN f k) (eN_eq hv k hk) (eN_lt hv k).2 (by decide) (hg_14_ (eN f k) (eN_lt hv k).2) dX4_noteInTable_9 ?_
  refine lv_astore_n (lv' := [(3, .ref (L (8 + (eN f k)))), (0, .ref (L 0)), (1, .int (nI k)), (2, .int cc)]) hx hb dX4_noteInTable_10 rfl hl (by decide) rfl (fun ls hl => ?_)
  refine lv_aload_n hx hb dX4_noteInTable_11 rfl (lv_at hl 1 rfl) ?_
  refine lv_aload_n hx hb dX4_noteInTable_12 rfl (lv_at hl 0 rfl) ?_
  refine r_Vi cX hw hI.1.1 rfl [.ref (L (8 + (eN f k)))] (c_X4_isInUse l G hI.1 (eN f k) (eN_lt hv k).2) wM_X4_102 mw_X4_isInUse ⟨Nat.le_of_ble_eq_true rfl, Nat.le_of_ble_eq_true rfl⟩ rfl rfl hl.1 (Nat.le_of_ble_eq_true rfl) dX4_noteInTable_13 ⟨Nat.le_of_ble_eq_true rfl, Nat.le_of_ble_eq_true rfl⟩ (fun r M1 H locs hp hw => ?_)
  obtain ⟨hr1, hq⟩ := hp
  subst hr1
  rw [hq] at hw
  refine lv_if_ne (tgt := 50) hx hb dX4_noteInTable_16 (by decide) (fun c16 => ?_) (fun c16 => ?_)
  · have hI := hI.re (show f = tb1 f k from (by unfold tb1; rw [if_pos (if01n c16)]))
    refine lv_aload_n hx hb dX4_noteInTable_50 rfl (lv_at hl 0 rfl) ?_
    refine lv_iload_n hx hb dX4_noteInTable_51 rfl (lv_at hl 3 rfl) ?_
    refine lv_aload_n hx hb dX4_noteInTable_52 rfl (lv_at hl 1 rfl) ?_
    refine r_get cX inX4 hw hI.1.1 rfl 2 (by decide) wF_X4_43 rfl dX4_noteInTable_53 ?_
    refine r_Vv cX hw (hI.1.2.2.2.2.2.1 (eN f k) (eN_lt hv k).2) rfl [.int cc, .int ((tb1 f k) 0)] (c_X0_take l G (hI.1.2.2.2.2.2.1 (eN f k) (eN_lt hv k).2) cc ((tb1 f k) 0)) wM_X4_184 mw_X0_take ⟨Nat.le_of_ble_eq_true rfl, Nat.le_of_ble_eq_true rfl⟩ rfl rfl hl.1 (Nat.le_of_ble_eq_true rfl) dX4_noteInTable_56 ⟨Nat.le_of_ble_eq_true rfl, Nat.le_of_ble_eq_true rfl⟩ (fun M1 H locs hp hw => ?_)
    rw [tb1_o f k 0 (by omega) (by omega)] at hp
    have hI := hI.enE (f' := tabF f k cc) (eN f k) (eN_lt hv k).2 hp (by simp [enFs, tabF, upd]) (Or.inr (by simp [tabF, upd])) (fun k h1 h2 => by unfold isEn at h2; unfold tabF; rw [pk_un (by omega), pk_un (by omega), pk_un (by omega), pk_un (by omega)])
    exact r_vret cX hr hlocks hw hI dX4_noteInTable_59
  · refine lv_aload_n hx hb dX4_noteInTable_19 rfl (lv_at hl 1 rfl) ?_
    refine r_get cX inX4 hw hI.1.1 rfl 11 (by decide) wF_X4_25 rfl dX4_noteInTable_20 ?_
    refine lv_iload_n hx hb dX4_noteInTable_23 rfl (lv_at hl 2 rfl) ?_
    obtain ⟨g_15, hg_15, hg_15_⟩ := hI.1.2.2.2.1
    refine r_aald cX hw 3 rfl hg_15 k rfl hk (by decide) (hg_15_ k hk) dX4_noteInTable_24 ?_
    refine lv_dup hx hb dX4_noteInTable_25 rfl ?_
    refine r_get cX inX1 hw (hI.1.2.2.2.2.2.2.1 k hk) rfl 0 (by decide) wF_X4_181 rfl dX4_noteInTable_26 ?_
    refine lv_iconst (v := 1) hx hb dX4_noteInTable_29 (by decide) ?_
    refine lv_iadd hx hb dX4_noteInTable_30 ?_
    refine r_put (fs' := [.int ((f (73 + k)) + 1), .int (f (89 + k)), .int (f (121 + k)), .int (f (105 + k)), .int (f (137 + k))]) cX inX1 tyX1 tyX1_ok nmX1 hw (hI.1.2.2.2.2.2.2.1 k hk) rfl 0 (by decide) wF_X4_181 rfl rfl rfl rfl (Nat.le_of_ble_eq_true rfl) dX4_noteInTable_31 (fun H locs hw => ?_)
    have hI := hI.fl (fs := [.int ((f (73 + k)) + 1), .int (f (89 + k)), .int (f (121 + k)), .int (f (105 + k)), .int (f (137 + k))]) (f' := upd f (73 + k) ((f (73 + k)) + 1)) k hk (by simp [flFs, upd]) (fun k h1 h2 => pk_un (by unfold isFl at h2; omega))
    refine lv_aload_n hx hb dX4_noteInTable_34 rfl (lv_at hl 1 rfl) ?_
    refine r_get cX inX4 hw hI.1.1 rfl 3 (by decide) wF_X4_46 rfl dX4_noteInTable_35 ?_
    refine lv_iconst (v := 3) hx hb dX4_noteInTable_38 (by decide) ?_
    refine lv_icmp_ne (tgt := 50) hx hb dX4_noteInTable_39 (by decide) (fun c39 => ?_) (fun c39 => ?_)
    · have hI := hI.re (show upd f (73 + k) ((f (73 + k)) + 1) = tb1 f k from (by unfold tb1; rw [if_neg (if01e c16), if_neg (by have q := c39; rw [pk_un (by omega)] at q; exact q)]))
      refine lv_aload_n hx hb dX4_noteInTable_50 rfl (lv_at hl 0 rfl) ?_
      refine lv_iload_n hx hb dX4_noteInTable_51 rfl (lv_at hl 3 rfl) ?_
      refine lv_aload_n hx hb dX4_noteInTable_52 rfl (lv_at hl 1 rfl) ?_
      refine r_get cX inX4 hw hI.1.1 rfl 2 (by decide) wF_X4_43 rfl dX4_noteInTable_53 ?_
      refine r_Vv cX hw (hI.1.2.2.2.2.2.1 (eN f k) (eN_lt hv k).2) rfl [.int cc, .int ((tb1 f k) 0)] (c_X0_take l G (hI.1.2.2.2.2.2.1 (eN f k) (eN_lt hv k).2) cc ((tb1 f k) 0)) wM_X4_184 mw_X0_take ⟨Nat.le_of_ble_eq_true rfl, Nat.le_of_ble_eq_true rfl⟩ rfl rfl hl.1 (Nat.le_of_ble_eq_true rfl) dX4_noteInTable_56 ⟨Nat.le_of_ble_eq_true rfl, Nat.le_of_ble_eq_true rfl⟩ (fun M1 H locs hp hw => ?_)
      rw [tb1_o f k 0 (by omega) (by omega)] at hp
      have hI := hI.enE (f' := tabF f k cc) (eN f k) (eN_lt hv k).2 hp (by simp [enFs, tabF, upd]) (Or.inr (by simp [tabF, upd])) (fun k h1 h2 => by unfold isEn at h2; unfold tabF; rw [pk_un (by omega), pk_un (by omega), pk_un (by omega), pk_un (by omega)])
      exact r_vret cX hr hlocks hw hI dX4_noteInTable_59
    · refine lv_aload_n hx hb dX4_noteInTable_42 rfl (lv_at hl 1 rfl) ?_
      refine lv_aload_n hx hb dX4_noteInTable_43 rfl (lv_at hl 1 rfl) ?_
      refine r_Vi cX hw hI.1.1 rfl [] (c_X4_nextGenerator l G hI.1) wM_X4_146 mw_X4_nextGenerator ⟨Nat.le_of_ble_eq_true rfl, Nat.le_of_ble_eq_true rfl⟩ rfl rfl hl.1 (Nat.le_of_ble_eq_true rfl) dX4_noteInTable_44 ⟨Nat.le_of_ble_eq_true rfl, Nat.le_of_ble_eq_true rfl⟩ (fun r M1 H locs hp hw => ?_)
      obtain ⟨hr1, hq⟩ := hp
      subst hr1
      rw [hq] at hw
      refine r_put (fs' := stFs L (upd (upd f (73 + k) ((f (73 + k)) + 1)) 7 (nx ((upd f (73 + k) ((f (73 + k)) + 1)) 7)))) cX inX4 tyX4 tyX4_ok nmX4 hw hI.1.1 rfl 7 (by decide) wF_X4_58 rfl rfl rfl rfl (Nat.le_of_ble_eq_true rfl) dX4_noteInTable_47 (fun H locs hw => ?_)
      have hI := hI.sc (f' := upd (upd f (73 + k) ((f (73 + k)) + 1)) 7 (nx ((upd f (73 + k) ((f (73 + k)) + 1)) 7))) (fun k h1 _ => pk_un (by omega))
      rw [show upd f (73 + k) (f (73 + k) + 1) 7 = f 7 from pk_un (by omega)] at hI hw
      have hI := hI.re (show upd (upd f (73 + k) (f (73 + k) + 1)) 7 (nx (f 7)) = tb1 f k from (by unfold tb1; rw [if_neg (if01e c16), if_pos (by have q := c39; rw [pk_un (by omega)] at q; exact q)]))
      refine lv_aload_n hx hb dX4_noteInTable_50 rfl (lv_at hl 0 rfl) ?_
      refine lv_iload_n hx hb dX4_noteInTable_51 rfl (lv_at hl 3 rfl) ?_
      refine lv_aload_n hx hb dX4_noteInTable_52 rfl (lv_at hl 1 rfl) ?_
      refine r_get cX inX4 hw hI.1.1 rfl 2 (by decide) wF_X4_43 rfl dX4_noteInTable_53 ?_
      refine r_Vv cX hw (hI.1.2.2.2.2.2.1 (eN f k) (eN_lt hv k).2) rfl [.int cc, .int ((tb1 f k) 0)] (c_X0_take l G (hI.1.2.2.2.2.2.1 (eN f k) (eN_lt hv k).2) cc ((tb1 f k) 0)) wM_X4_184 mw_X0_take ⟨Nat.le_of_ble_eq_true rfl, Nat.le_of_ble_eq_true rfl⟩ rfl rfl hl.1 (Nat.le_of_ble_eq_true rfl) dX4_noteInTable_56 ⟨Nat.le_of_ble_eq_true rfl, Nat.le_of_ble_eq_true rfl⟩ (fun M1 H locs hp hw => ?_)
      rw [tb1_o f k 0 (by omega) (by omega)] at hp
      have hI := hI.enE (f' := tabF f k cc) (eN f k) (eN_lt hv k).2 hp (by simp [enFs, tabF, upd]) (Or.inr (by simp [tabF, upd])) (fun k h1 h2 => by unfold isEn at h2; unfold tabF; rw [pk_un (by omega), pk_un (by omega), pk_un (by omega), pk_un (by omega)])
      exact r_vret cX hr hlocks hw hI dX4_noteInTable_59

set_option maxHeartbeats 4000000 in
set_option maxRecDepth 100000 in
theorem c_X4_noteChoice (l : Launch) (G : gG) {M : HM} {L : Nat → Nat} {f : Nat → Int32} (hI0 : IsSt G M L f) {B : Nat} (hv : Inv B f) (hB : B < 2 ^ 30) (k : Nat) (hk : k < 16) (cc : Int32) : Cv l yX4_noteChoice cX4_noteChoice 3 (rd 3 0 0) G [.ref (L 0), .int (nI k), .int cc] M (fun M' => St G M M' L (tkF f k cc)) := by
  refine Cv.of (by decide) (Nat.le_of_ble_eq_true rfl) ?_
  intro p e s m args below meth c ls cX hw hlocks hr hnm hl
  have hx := cX.1
  have hb := cX.2.1
  have hl : lv_has ls 3 [(0, .ref (L 0)), (1, .int (nI k)), (2, .int cc)] := hl
  have hI := hI0.st
  refine lv_aload_n hx hb dX4_noteChoice_0 rfl (lv_at hl 0 rfl) ?_
  refine r_Vi cX hw hI.1.1 rfl [] (c_X4_usesTable l G hI.1) wM_X4_174 mw_X4_usesTable ⟨Nat.le_of_ble_eq_true rfl, Nat.le_of_ble_eq_true rfl⟩ rfl rfl hl.1 (Nat.le_of_ble_eq_true rfl) dX4_noteChoice_1 ⟨Nat.le_of_ble_eq_true rfl, Nat.le_of_ble_eq_true rfl⟩ (fun r M1 H locs hp hw => ?_)
  obtain ⟨hr1, hq⟩ := hp
  subst hr1
  rw [hq] at hw
  refine lv_if_eq (tgt := 16) hx hb dX4_noteChoice_4 (by decide) (fun c4 => ?_) (fun c4 => ?_)
  · refine lv_aload_n hx hb dX4_noteChoice_16 rfl (lv_at hl 0 rfl) ?_
    refine r_get cX inX4 hw hI.1.1 rfl 3 (by decide) wF_X4_46 rfl dX4_noteChoice_17 ?_
    refine lv_iconst (v := 2) hx hb dX4_noteChoice_20 (by decide) ?_
    refine lv_icmp_ne (tgt := 41) hx hb dX4_noteChoice_21 (by decide) (fun c21 => ?_) (fun c21 => ?_)
    · exact r_vret cX hr hlocks hw (hI.re (by unfold tkF; rw [if_neg (if01e c4), if_neg c21])) dX4_noteChoice_41
    · refine lv_aload_n hx hb dX4_noteChoice_24 rfl (lv_at hl 0 rfl) ?_
      refine lv_aload_n hx hb dX4_noteChoice_25 rfl (lv_at hl 0 rfl) ?_
      refine r_get cX inX4 hw hI.1.1 rfl 8 (by decide) wF_X4_61 rfl dX4_noteChoice_26 ?_
      refine lv_iconst (v := 1) hx hb dX4_noteChoice_29 (by decide) ?_
      refine lv_iadd hx hb dX4_noteChoice_30 ?_
      refine lv_aload_n hx hb dX4_noteChoice_31 rfl (lv_at hl 0 rfl) ?_
      refine r_get cX inX4 hw hI.1.1 rfl 0 (by decide) wF_X4_36 rfl dX4_noteChoice_32 ?_
      refine r_SNi cX hw [.int ((tnOf f) + 1), .int (f 1)] (c_X6_remainder l G ((tnOf f) + 1) (f 1) hv.ge1) wM_X4_87 mw_X6_remainder ⟨Nat.le_of_ble_eq_true rfl, Nat.le_of_ble_eq_true rfl⟩ rfl rfl hl.1 (Nat.le_of_ble_eq_true rfl) dX4_noteChoice_35 ⟨Nat.le_of_ble_eq_true rfl, Nat.le_of_ble_eq_true rfl⟩ (fun r M1 H locs hp hw => ?_)
      obtain ⟨hr1, hq⟩ := hp
      subst hr1
      rw [hq] at hw
      refine r_put (fs' := stFs L (upd f 8 (f 8 + 1))) cX inX4 tyX4 tyX4_ok nmX4 hw hI.1.1 rfl 8 (by decide) wF_X4_61 rfl rfl rfl (stFs_turn L hv hB) (Nat.le_of_ble_eq_true rfl) dX4_noteChoice_38 (fun H locs hw => ?_)
      have hI := hI.sc (f' := upd f 8 (f 8 + 1)) (fun k h1 _ => pk_un (by omega))
      exact r_vret cX hr hlocks hw (hI.re (by unfold tkF; rw [if_neg (if01e c4), if_pos c21])) dX4_noteChoice_41
  · refine lv_aload_n hx hb dX4_noteChoice_7 rfl (lv_at hl 0 rfl) ?_
    refine lv_iload_n hx hb dX4_noteChoice_8 rfl (lv_at hl 1 rfl) ?_
    refine lv_iload_n hx hb dX4_noteChoice_9 rfl (lv_at hl 2 rfl) ?_
    refine r_Vv cX hw hI.1.1 rfl [.int (nI k), .int cc] (c_X4_noteInTable l G hI.1 hv k hk cc) wM_X4_178 mw_X4_noteInTable ⟨Nat.le_of_ble_eq_true rfl, Nat.le_of_ble_eq_true rfl⟩ rfl rfl hl.1 (Nat.le_of_ble_eq_true rfl) dX4_noteChoice_10 ⟨Nat.le_of_ble_eq_true rfl, Nat.le_of_ble_eq_true rfl⟩ (fun M1 H locs hp hw => ?_)
    have hI := hI.trans hp
    refine lv_goto (tgt := 41) hx hb dX4_noteChoice_13 (by decide) ?_
    exact r_vret cX hr hlocks hw (hI.re (by unfold tkF; rw [if_pos (if01n c4)])) dX4_noteChoice_41

set_option maxHeartbeats 4000000 in
set_option maxRecDepth 100000 in
theorem c_X4_pathAt (l : Launch) (G : gG) {M : HM} {L : Nat → Nat} {f : Nat → Int32} (hI0 : IsSt G M L f) {B : Nat} (hv : Inv B f) (v : Int32) (j : Nat) (hj : j < nP f) (hvj : v = nI j) : Cr l yX4_pathAt cX4_pathAt 2 (.object RX2) (rd 2 0 0) G [.ref (L 0), .int v] M (fun r M' => r = L (4 + j) ∧ M' = M) := by
  obtain ⟨e1, e2, e3⟩ := hv.P
  refine Cr.of (by decide) (Nat.le_of_ble_eq_true rfl) ?_
  intro p e s m args below meth c ls cX hw hlocks hr hl
  have hx := cX.1
  have hb := cX.2.1
  have hl : lv_has ls 2 [(0, .ref (L 0)), (1, .int v)] := hl
  have hI := hI0.st
  refine lv_aload_n hx hb dX4_pathAt_0 rfl (lv_at hl 0 rfl) ?_
  refine r_get cX inX4 hw hI.1.1 rfl 9 (by decide) wF_X4_11 rfl dX4_pathAt_1 ?_
  refine lv_aload_n hx hb dX4_pathAt_4 rfl (lv_at hl 0 rfl) ?_
  refine lv_iload_n hx hb dX4_pathAt_5 rfl (lv_at hl 1 rfl) ?_
  refine r_Vi cX hw hI.1.1 rfl [.int v] (c_X4_hasPath l G hI.1 v) wM_X4_82 mw_X4_hasPath ⟨Nat.le_of_ble_eq_true rfl, Nat.le_of_ble_eq_true rfl⟩ rfl rfl hl.1 (Nat.le_of_ble_eq_true rfl) dX4_pathAt_6 ⟨Nat.le_of_ble_eq_true rfl, Nat.le_of_ble_eq_true rfl⟩ (fun r M1 H locs hp hw => ?_)
  obtain ⟨hr1, hq⟩ := hp
  subst hr1
  rw [hq] at hw
  refine lv_if_eq (tgt := 16) hx hb dX4_pathAt_9 (by decide) (fun c9 => ?_) (fun c9 => ?_)
  · exact absurd c9 (by rw [hvj, if_pos ⟨nI_pos' (by omega), by rw [e3]; exact nI_lep hj (by omega)⟩]; decide)
  · refine lv_iload_n hx hb dX4_pathAt_12 rfl (lv_at hl 1 rfl) ?_
    refine lv_goto (tgt := 17) hx hb dX4_pathAt_13 (by decide) ?_
    obtain ⟨g_16, hg_16, hg_16_⟩ := hI.1.2.1
    refine r_aald cX hw 4 rfl hg_16 j hvj (by omega) (by decide) (hg_16_ j (by omega)) dX4_pathAt_17 ?_
    exact r_aret cX hr hlocks hw ⟨rfl, rfl⟩ dX4_pathAt_18

set_option maxHeartbeats 4000000 in
set_option maxRecDepth 100000 in
theorem c_X4_sendPacket (l : Launch) (G : gG) {M : HM} {L : Nat → Nat} {f : Nat → Int32} (hI0 : IsSt G M L f) {B : Nat} (hv : Inv B f) (hB : B < 2 ^ 30) (k : Nat) (hk : k < 16) (size : Int32) : Ci l yX4_sendPacket cX4_sendPacket 5 .int (rd 4 0 0) G [.ref (L 0), .int (nI k), .int size] M (fun r M' => r = (sdF f k size).1 ∧ St G M M' L (sdF f k size).2) := by
  obtain ⟨j, hj, hc⟩ := chF_N hv hB k hk
  obtain ⟨e1, e2, e3⟩ := hv.P
  have hcl : (chF f k).toNatClampNeg = j := by rw [hc]; exact nI_clamp (by omega)
  refine Ci.of (by decide) (Nat.le_of_ble_eq_true rfl) ?_
  intro p e s m args below meth c ls cX hw hlocks hr hl
  have hx := cX.1
  have hb := cX.2.1
  have hl : lv_has ls 5 [(0, .ref (L 0)), (1, .int (nI k)), (2, .int size)] := hl
  have hI := hI0.st
  refine lv_aload_n hx hb dX4_sendPacket_0 rfl (lv_at hl 0 rfl) ?_
  refine lv_iload_n hx hb dX4_sendPacket_1 rfl (lv_at hl 1 rfl) ?_
  refine r_Vi cX hw hI.1.1 rfl [.int (nI k)] (c_X4_pathFor l G hI.1 hv k hk) wM_X4_152 mw_X4_pathFor ⟨Nat.le_of_ble_eq_true rfl, Nat.le_of_ble_eq_true rfl⟩ rfl rfl hl.1 (Nat.le_of_ble_eq_true rfl) dX4_sendPacket_2 ⟨Nat.le_of_ble_eq_true rfl, Nat.le_of_ble_eq_true rfl⟩ (fun r M1 H locs hp hw => ?_)
  obtain ⟨hr1, hq⟩ := hp
  subst hr1
  rw [hq] at hw
  refine lv_istore_n (lv' := [(3, .int (chF f k)), (0, .ref (L 0)), (1, .int (nI k)), (2, .int size)]) hx hb dX4_sendPacket_5 rfl hl (by decide) rfl (fun ls hl => ?_)
  refine lv_aload_n hx hb dX4_sendPacket_6 rfl (lv_at hl 1 rfl) ?_
  refine lv_iload_n hx hb dX4_sendPacket_7 rfl (lv_at hl 2 rfl) ?_
  refine lv_iload_n hx hb dX4_sendPacket_8 rfl (lv_at hl 0 rfl) ?_
  refine r_Vv cX hw hI.1.1 rfl [.int (nI k), .int (chF f k)] (c_X4_noteChoice l G hI.1 hv hB k hk (chF f k)) wM_X4_155 mw_X4_noteChoice ⟨Nat.le_of_ble_eq_true rfl, Nat.le_of_ble_eq_true rfl⟩ rfl rfl hl.1 (Nat.le_of_ble_eq_true rfl) dX4_sendPacket_9 ⟨Nat.le_of_ble_eq_true rfl, Nat.le_of_ble_eq_true rfl⟩ (fun M1 H locs hp hw => ?_)
  have hI := hI.trans hp
  have hvF : Inv (B + 1) (tkF f k (chF f k)) := by rw [hc]; exact hv.chosen k hk hj
  have hs : sdF f k size = trF (tkF f k (chF f k)) k (chF f k) size := rfl
  have hjF : j < nP (tkF f k (chF f k)) := by rw [nP_ext (tkF_1 f k (chF f k))]; exact hj
  generalize tkF f k (chF f k) = F at hI hvF hs hjF
  refine lv_aload_n hx hb dX4_sendPacket_12 rfl (lv_at hl 1 rfl) ?_
  refine lv_iload_n hx hb dX4_sendPacket_13 rfl (lv_at hl 0 rfl) ?_
  refine r_Vr cX hw hI.1.1 rfl [.int (chF f k)] (c_X4_pathAt l G hI.1 hvF (chF f k) j hjF hc) wM_X4_158 mw_X4_pathAt ⟨Nat.le_of_ble_eq_true rfl, Nat.le_of_ble_eq_true rfl⟩ rfl rfl hl.1 (Nat.le_of_ble_eq_true rfl) dX4_sendPacket_14 ⟨Nat.le_of_ble_eq_true rfl, Nat.le_of_ble_eq_true rfl⟩ (fun r M1 H locs hp hw => ?_)
  obtain ⟨hr1, hq⟩ := hp
  subst hr1
  rw [hq] at hw
  refine lv_astore (lv' := [(4, .ref (L (4 + j))), (3, .int (chF f k)), (0, .ref (L 0)), (1, .int (nI k)), (2, .int size)]) hx hb dX4_sendPacket_17 hl (by decide) rfl (fun ls hl => ?_)
  refine lv_aload hx hb dX4_sendPacket_19 (lv_at hl 0 rfl) ?_
  refine lv_aload_n hx hb dX4_sendPacket_21 rfl (lv_at hl 2 rfl) ?_
  refine r_get cX inX4 hw hI.1.1 rfl 2 (by decide) wF_X4_43 rfl dX4_sendPacket_22 ?_
  refine r_Vi cX hw (hI.1.2.2.2.2.1 j (by omega)) rfl [.int (F 0)] (c_X2_dropsAt l G (hI.1.2.2.2.2.1 j (by omega)) (F 0)) wM_X4_162 mw_X2_dropsAt ⟨Nat.le_of_ble_eq_true rfl, Nat.le_of_ble_eq_true rfl⟩ rfl rfl hl.1 (Nat.le_of_ble_eq_true rfl) dX4_sendPacket_25 ⟨Nat.le_of_ble_eq_true rfl, Nat.le_of_ble_eq_true rfl⟩ (fun r M1 H locs hp hw => ?_)
  obtain ⟨hr1, hq⟩ := hp
  subst hr1
  rw [hq] at hw
  refine lv_if_eq (tgt := 47) hx hb dX4_sendPacket_28 (by decide) (fun c28 => ?_) (fun c28 => ?_)
  · refine lv_aload_n hx hb dX4_sendPacket_47 rfl (lv_at hl 2 rfl) ?_
    refine r_get cX inX4 hw hI.1.1 rfl 11 (by decide) wF_X4_25 rfl dX4_sendPacket_48 ?_
    refine lv_iload_n hx hb dX4_sendPacket_51 rfl (lv_at hl 3 rfl) ?_
    obtain ⟨g_17, hg_17, hg_17_⟩ := hI.1.2.2.2.1
    refine r_aald cX hw 3 rfl hg_17 k rfl hk (by decide) (hg_17_ k hk) dX4_sendPacket_52 ?_
    refine lv_iload_n hx hb dX4_sendPacket_53 rfl (lv_at hl 1 rfl) ?_
    refine lv_aload_n hx hb dX4_sendPacket_54 rfl (lv_at hl 2 rfl) ?_
    refine r_get cX inX4 hw hI.1.1 rfl 2 (by decide) wF_X4_43 rfl dX4_sendPacket_55 ?_
    refine lv_aload hx hb dX4_sendPacket_58 (lv_at hl 0 rfl) ?_
    refine lv_aload_n hx hb dX4_sendPacket_60 rfl (lv_at hl 2 rfl) ?_
    refine r_get cX inX4 hw hI.1.1 rfl 2 (by decide) wF_X4_43 rfl dX4_sendPacket_61 ?_
    refine lv_iload_n hx hb dX4_sendPacket_64 rfl (lv_at hl 4 rfl) ?_
    refine r_Vi cX hw (hI.1.2.2.2.2.1 j (by omega)) rfl [.int (F 0), .int size] (c_X2_ticksToArrive l G (hI.1.2.2.2.2.1 j (by omega)) (F 0) size (hvF.ger j (by omega))) wM_X4_106 mw_X2_ticksToArrive ⟨Nat.le_of_ble_eq_true rfl, Nat.le_of_ble_eq_true rfl⟩ rfl rfl hl.1 (Nat.le_of_ble_eq_true rfl) dX4_sendPacket_65 ⟨Nat.le_of_ble_eq_true rfl, Nat.le_of_ble_eq_true rfl⟩ (fun r M1 H locs hp hw => ?_)
    obtain ⟨hr1, hq⟩ := hp
    subst hr1
    rw [hq] at hw
    refine lv_iadd hx hb dX4_sendPacket_68 ?_
    refine r_Vv cX hw (hI.1.2.2.2.2.2.2.1 k hk) rfl [.int (chF f k), .int ((F 0) + (laF F size j))] (c_X1_deliver l G (hI.1.2.2.2.2.2.2.1 k hk) (chF f k) ((F 0) + (laF F size j))) wM_X4_168 mw_X1_deliver ⟨Nat.le_of_ble_eq_true rfl, Nat.le_of_ble_eq_true rfl⟩ rfl rfl hl.1 (Nat.le_of_ble_eq_true rfl) dX4_sendPacket_69 ⟨Nat.le_of_ble_eq_true rfl, Nat.le_of_ble_eq_true rfl⟩ (fun M1 H locs hp hw => ?_)
    have hI := hI.flE (f' := dvF F k (chF f k) (enF F j size + F (9 + j))) k hk hp (by rw [← hvF.arr2 j (by omega) size]; simp [flFs, dvF, upd, laF]) (fun q h1 h2 => by unfold isFl at h2; unfold dvF; rw [pk_un (by omega), pk_un (by omega), pk_un (by omega), pk_un (by omega)])
    refine lv_aload hx hb dX4_sendPacket_72 (lv_at hl 0 rfl) ?_
    refine lv_aload_n hx hb dX4_sendPacket_74 rfl (lv_at hl 2 rfl) ?_
    refine r_get cX inX4 hw hI.1.1 rfl 2 (by decide) wF_X4_43 rfl dX4_sendPacket_75 ?_
    refine lv_iload_n hx hb dX4_sendPacket_78 rfl (lv_at hl 4 rfl) ?_
    refine r_Vv cX hw (hI.1.2.2.2.2.1 j (by omega)) rfl [.int ((dvF F k (chF f k) (enF F j size + F (9 + j))) 0), .int size] (c_X2_transmit l G (hI.1.2.2.2.2.1 j (by omega)) ((dvF F k (chF f k) (enF F j size + F (9 + j))) 0) size (by rw [dvF_o F k _ _ _ hk (show 13 + j < 89 by omega)]; exact hvF.ger j (by omega))) wM_X4_171 mw_X2_transmit ⟨Nat.le_of_ble_eq_true rfl, Nat.le_of_ble_eq_true rfl⟩ rfl rfl hl.1 (Nat.le_of_ble_eq_true rfl) dX4_sendPacket_79 ⟨Nat.le_of_ble_eq_true rfl, Nat.le_of_ble_eq_true rfl⟩ (fun M1 H locs hp hw => ?_)
    simp only [dvF_o F k _ _ _ hk (show 0 < 89 by omega), dvF_o F k _ _ _ hk (show 9 + j < 89 by omega), dvF_o F k _ _ _ hk (show 13 + j < 89 by omega), dvF_o F k _ _ _ hk (show 17 + j < 89 by omega), dvF_o F k _ _ _ hk (show 21 + j < 89 by omega), dvF_o F k _ _ _ hk (show 25 + j < 89 by omega), dvF_o F k _ _ _ hk (show 29 + j < 89 by omega), dvF_o F k _ _ _ hk (show 33 + j < 89 by omega), dvF_o F k _ _ _ hk (show 37 + j < 89 by omega)] at hp
    rw [hvF.arr j (by omega) size] at hp
    have hI := hI.paE (f' := xmF (dvF F k (chF f k) (enF F j size + F (9 + j))) j size (enF F j size)) j (by omega) hp (by simp [paFs, xmF, upd, dvF_o F k _ _ _ hk (show 9 + j < 89 by omega), dvF_o F k _ _ _ hk (show 13 + j < 89 by omega), dvF_o F k _ _ _ hk (show 17 + j < 89 by omega), dvF_o F k _ _ _ hk (show 21 + j < 89 by omega), dvF_o F k _ _ _ hk (show 29 + j < 89 by omega), dvF_o F k _ _ _ hk (show 33 + j < 89 by omega), dvF_o F k _ _ _ hk (show 37 + j < 89 by omega)]) (fun q h1 h2 => by unfold isPa at h2; unfold xmF; rw [pk_un (by omega), pk_un (by omega), pk_un (by omega), pk_un (by omega)])
    rw [xm_dv F k j _ _ _ _ (by omega)] at hI
    refine lv_iload_n hx hb dX4_sendPacket_82 rfl (lv_at hl 1 rfl) ?_
    exact r_iret cX hr hlocks hw (by rw [hs]; unfold trF; rw [hcl, if_neg (fun h => absurd c28 (by rw [if_pos ((hvF.drp j (by omega)).mpr h)]; decide))]; exact ⟨rfl, hI⟩) dX4_sendPacket_83
  · refine lv_aload hx hb dX4_sendPacket_31 (lv_at hl 0 rfl) ?_
    refine lv_dup hx hb dX4_sendPacket_33 rfl ?_
    refine r_get cX inX2 hw (hI.1.2.2.2.2.1 j (by omega)) rfl 7 (by decide) wF_X4_165 rfl dX4_sendPacket_34 ?_
    refine lv_iconst (v := 1) hx hb dX4_sendPacket_37 (by decide) ?_
    refine lv_iadd hx hb dX4_sendPacket_38 ?_
    refine r_put (fs' := [.int (F (9 + j)), .int (F (13 + j)), .int (F (17 + j)), .int (F (21 + j)), .int (F (25 + j)), .int (F (29 + j)), .int (F (33 + j)), .int ((F (37 + j)) + 1)]) cX inX2 tyX2 tyX2_ok nmX2 hw (hI.1.2.2.2.2.1 j (by omega)) rfl 7 (by decide) wF_X4_165 rfl rfl rfl rfl (Nat.le_of_ble_eq_true rfl) dX4_sendPacket_39 (fun H locs hw => ?_)
    have hI := hI.pa (fs := [.int (F (9 + j)), .int (F (13 + j)), .int (F (17 + j)), .int (F (21 + j)), .int (F (25 + j)), .int (F (29 + j)), .int (F (33 + j)), .int ((F (37 + j)) + 1)]) (f' := upd F (37 + j) ((F (37 + j)) + 1)) j (by omega) (by simp [paFs, upd]) (fun k h1 h2 => pk_un (by unfold isPa at h2; omega))
    refine lv_bipush (v := 10) hx hb dX4_sendPacket_42 (by decide) ?_
    refine lv_iload_n hx hb dX4_sendPacket_44 rfl (lv_at hl 1 rfl) ?_
    refine lv_iadd hx hb dX4_sendPacket_45 ?_
    exact r_iret cX hr hlocks hw (by rw [hs]; unfold trF; rw [hcl, if_pos ((hvF.drp j (by omega)).mp (if01n c28))]; exact ⟨rfl, hI⟩) dX4_sendPacket_46

set_option maxHeartbeats 4000000 in
set_option maxRecDepth 100000 in
theorem c_X4_wouldOvertake (l : Launch) (G : gG) {M : HM} {L : Nat → Nat} {f : Nat → Int32} (hI0 : IsSt G M L f) {B : Nat} (hvF : Inv B f) (hB : B < 2 ^ 30) (k : Nat) (hk : k < 16) (size : Int32) : Ci l yX4_wouldOvertake cX4_wouldOvertake 4 .boolean (rd 4 0 0) G [.ref (L 0), .int (nI k), .int size] M (fun r M' => r = woF f k size ∧ M' = M) := by
  have hv := hvF
  obtain ⟨j, hj, hc⟩ := chF_N hv hB k hk
  obtain ⟨e1, e2, e3⟩ := hv.P
  have hcl : (chF f k).toNatClampNeg = j := by rw [hc]; exact nI_clamp (by omega)
  refine Ci.of (by decide) (Nat.le_of_ble_eq_true rfl) ?_
  intro p e s m args below meth c ls cX hw hlocks hr hl
  have hx := cX.1
  have hb := cX.2.1
  have hl : lv_has ls 4 [(0, .ref (L 0)), (1, .int (nI k)), (2, .int size)] := hl
  have hI := hI0.st
  refine lv_aload_n hx hb dX4_wouldOvertake_0 rfl (lv_at hl 0 rfl) ?_
  refine lv_aload_n hx hb dX4_wouldOvertake_1 rfl (lv_at hl 0 rfl) ?_
  refine lv_iload_n hx hb dX4_wouldOvertake_2 rfl (lv_at hl 1 rfl) ?_
  refine r_Vi cX hw hI.1.1 rfl [.int (nI k)] (c_X4_pathFor l G hI.1 hv k hk) wM_X4_152 mw_X4_pathFor ⟨Nat.le_of_ble_eq_true rfl, Nat.le_of_ble_eq_true rfl⟩ rfl rfl hl.1 (Nat.le_of_ble_eq_true rfl) dX4_wouldOvertake_3 ⟨Nat.le_of_ble_eq_true rfl, Nat.le_of_ble_eq_true rfl⟩ (fun r M1 H locs hp hw => ?_)
  obtain ⟨hr1, hq⟩ := hp
  subst hr1
  rw [hq] at hw
  refine r_Vr cX hw hI.1.1 rfl [.int (chF f k)] (c_X4_pathAt l G hI.1 hvF (chF f k) j hj hc) wM_X4_158 mw_X4_pathAt ⟨Nat.le_of_ble_eq_true rfl, Nat.le_of_ble_eq_true rfl⟩ rfl rfl hl.1 (Nat.le_of_ble_eq_true rfl) dX4_wouldOvertake_6 ⟨Nat.le_of_ble_eq_true rfl, Nat.le_of_ble_eq_true rfl⟩ (fun r M1 H locs hp hw => ?_)
  obtain ⟨hr1, hq⟩ := hp
  subst hr1
  rw [hq] at hw
  refine lv_astore_n (lv' := [(3, .ref (L (4 + j))), (0, .ref (L 0)), (1, .int (nI k)), (2, .int size)]) hx hb dX4_wouldOvertake_9 rfl hl (by decide) rfl (fun ls hl => ?_)
  refine lv_aload_n hx hb dX4_wouldOvertake_10 rfl (lv_at hl 0 rfl) ?_
  refine lv_aload_n hx hb dX4_wouldOvertake_11 rfl (lv_at hl 1 rfl) ?_
  refine r_get cX inX4 hw hI.1.1 rfl 2 (by decide) wF_X4_43 rfl dX4_wouldOvertake_12 ?_
  refine r_Vi cX hw (hI.1.2.2.2.2.1 j (by omega)) rfl [.int (f 0)] (c_X2_dropsAt l G (hI.1.2.2.2.2.1 j (by omega)) (f 0)) wM_X4_162 mw_X2_dropsAt ⟨Nat.le_of_ble_eq_true rfl, Nat.le_of_ble_eq_true rfl⟩ rfl rfl hl.1 (Nat.le_of_ble_eq_true rfl) dX4_wouldOvertake_15 ⟨Nat.le_of_ble_eq_true rfl, Nat.le_of_ble_eq_true rfl⟩ (fun r M1 H locs hp hw => ?_)
  obtain ⟨hr1, hq⟩ := hp
  subst hr1
  rw [hq] at hw
  refine lv_if_ne (tgt := 51) hx hb dX4_wouldOvertake_18 (by decide) (fun c18 => ?_) (fun c18 => ?_)
  · refine lv_iconst (v := 0) hx hb dX4_wouldOvertake_51 (by decide) ?_
    exact r_zret cX hr hlocks rfl hw ⟨by unfold woF; rw [hcl, if_neg (fun h => h.1 ((hvF.drp j (by omega)).mp (if01n c18)))], rfl⟩ dX4_wouldOvertake_52
  · refine lv_aload_n hx hb dX4_wouldOvertake_21 rfl (lv_at hl 1 rfl) ?_
    refine r_get cX inX4 hw hI.1.1 rfl 11 (by decide) wF_X4_25 rfl dX4_wouldOvertake_22 ?_
    refine lv_iload_n hx hb dX4_wouldOvertake_25 rfl (lv_at hl 2 rfl) ?_
    obtain ⟨g_18, hg_18, hg_18_⟩ := hI.1.2.2.2.1
    refine r_aald cX hw 3 rfl hg_18 k rfl hk (by decide) (hg_18_ k hk) dX4_wouldOvertake_26 ?_
    refine lv_aload_n hx hb dX4_wouldOvertake_27 rfl (lv_at hl 1 rfl) ?_
    refine r_get cX inX4 hw hI.1.1 rfl 2 (by decide) wF_X4_43 rfl dX4_wouldOvertake_28 ?_
    refine lv_aload_n hx hb dX4_wouldOvertake_31 rfl (lv_at hl 0 rfl) ?_
    refine lv_aload_n hx hb dX4_wouldOvertake_32 rfl (lv_at hl 1 rfl) ?_
    refine r_get cX inX4 hw hI.1.1 rfl 2 (by decide) wF_X4_43 rfl dX4_wouldOvertake_33 ?_
    refine lv_iload_n hx hb dX4_wouldOvertake_36 rfl (lv_at hl 3 rfl) ?_
    refine r_Vi cX hw (hI.1.2.2.2.2.1 j (by omega)) rfl [.int (f 0), .int size] (c_X2_ticksToArrive l G (hI.1.2.2.2.2.1 j (by omega)) (f 0) size (hvF.ger j (by omega))) wM_X4_106 mw_X2_ticksToArrive ⟨Nat.le_of_ble_eq_true rfl, Nat.le_of_ble_eq_true rfl⟩ rfl rfl hl.1 (Nat.le_of_ble_eq_true rfl) dX4_wouldOvertake_37 ⟨Nat.le_of_ble_eq_true rfl, Nat.le_of_ble_eq_true rfl⟩ (fun r M1 H locs hp hw => ?_)
    obtain ⟨hr1, hq⟩ := hp
    subst hr1
    rw [hq] at hw
    refine lv_iadd hx hb dX4_wouldOvertake_40 ?_
    refine r_Vi cX hw (hI.1.2.2.2.2.2.2.1 k hk) rfl [.int ((f 0) + (laF f size j))] (c_X1_isOvertakenBy l G (hI.1.2.2.2.2.2.2.1 k hk) ((f 0) + (laF f size j))) wM_X4_187 mw_X1_isOvertakenBy ⟨Nat.le_of_ble_eq_true rfl, Nat.le_of_ble_eq_true rfl⟩ rfl rfl hl.1 (Nat.le_of_ble_eq_true rfl) dX4_wouldOvertake_41 ⟨Nat.le_of_ble_eq_true rfl, Nat.le_of_ble_eq_true rfl⟩ (fun r M1 H locs hp hw => ?_)
    obtain ⟨hr1, hq⟩ := hp
    subst hr1
    rw [hq] at hw
    refine lv_if_eq (tgt := 51) hx hb dX4_wouldOvertake_44 (by decide) (fun c44 => ?_) (fun c44 => ?_)
    · refine lv_iconst (v := 0) hx hb dX4_wouldOvertake_51 (by decide) ?_
      exact r_zret cX hr hlocks rfl hw ⟨by unfold woF; rw [hcl, if_neg (fun h => absurd c44 (by rw [if_pos (by rw [hvF.arr2 j (by omega) size]; exact h.2)]; decide))], rfl⟩ dX4_wouldOvertake_52
    · refine lv_iconst (v := 1) hx hb dX4_wouldOvertake_47 (by decide) ?_
      refine lv_goto (tgt := 52) hx hb dX4_wouldOvertake_48 (by decide) ?_
      exact r_zret cX hr hlocks rfl hw ⟨by unfold woF; rw [hcl, if_pos ⟨(fun h => absurd c18 (by rw [if_pos ((hvF.drp j (by omega)).mpr h)]; decide)), by rw [← hvF.arr2 j (by omega) size]; exact if01n c44⟩], rfl⟩ dX4_wouldOvertake_52
