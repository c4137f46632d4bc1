def iFo (iF : Nat → Int32) (k : Nat) (o : Option (Option Int32 × Int32)) : Nat → Int32 := match o with
  | none => iF
  | some (none, _) => upd iF k (-9)
  | some (some v, _) => upd iF k v
def iNo (iN : Nat → Int32) (k : Nat) (o : Option (Option Int32 × Int32)) : Nat → Int32 := match o with
  | none => iN
  | some (_, v) => upd iN k v
def iKo (k : Nat) (o : Option (Option Int32 × Int32)) : Nat := match o with
  | none => k
  | some _ => k + 1
theorem dg_cs {T : Nat → Int32} {n p : Nat} (h : 48 ≤ cs T n p ∧ cs T n p ≤ 57) : dgB T n p = true := by
  unfold cs at h
  split at h
  · rename_i q
    simp only [dgB, decide_eq_true_eq]
    exact ⟨q, h⟩
  · exact absurd h.1 (by decide)
theorem cs_dg {T : Nat → Int32} {n p : Nat} (h : dgB T n p = true) : 48 ≤ cs T n p ∧ cs T n p ≤ 57 := by
  obtain ⟨a, b⟩ := dg_lt h
  unfold cs
  rw [if_pos a]
  exact b
set_option maxHeartbeats 4000000 in
set_option maxRecDepth 100000 in
theorem c_X7_sign (l : Launch) (G : gG) {M : HM} {b : Nat → Nat} {f sv sl fl T iF iN : Nat → Int32} {ct : Int32} {ln qq k : Nat} (hR0 : IsRf G M b f sv sl fl T iF iN ct (nI ln) (nI qq) (nI k)) (hln : ln ≤ 120) (hqq : qq ≤ ln) : Ci l yX7_sign cX7_sign 1 .int (rd 0 0 0) G [.ref (b 0)] M (fun r M' => r = cs T ln (sk T ln qq) ∧ Rf G M M' b f sv sl fl T iF iN ct (nI ln) (nI (sk T ln qq)) (nI k)) := by
  refine Ci.of (by decide) (Nat.le_of_ble_eq_true rfl) ?_
  intro p e s m args below meth c ls cX hw hlocks hr hl
  have hx := cX.1
  have hb := cX.2.1
  have hl : lv_has ls 1 [(0, .ref (b 0))] := hl
  have hR := hR0.rf
  have lp0 : ∀ (nn i : Nat), i ≤ ln → ln < i + nn → ∀ (M1 : HM) (H : Heap) (locs : List Loc) (ls : Array Slot), Wd G (dm M s.heap.size) s.heap M1 H locs → Rf G M M1 b f sv sl fl T iF iN ct (nI ln) (nI i) (nI k) → sk T ln i = sk T ln qq → lv_has ls 1 [(0, .ref (b 0))] → W p l e (rd 0 0 0) s m args below meth c H locs 0 0 (MQ below (QI G M s.heap.size (fun r M' => r = cs T ln (sk T ln qq) ∧ Rf G M M' b f sv sl fl T iF iN ct (nI ln) (nI (sk T ln qq)) (nI k))) args s 0 0 (dm M s.heap.size)) (F0 m 0 ls []) := by
    intro nn
    induction nn with
    | zero =>
      intro i h1 h2
      exact absurd h2 (by omega)
    | succ nn ih =>
      intro i hi hin M1 H locs ls hw hR hk hl
      refine lv_aload_n hx hb dX7_sign_0 rfl (lv_at hl 0 rfl) ?_
      refine r_get cX inX7 hw hR.1.1 rfl 7 (by decide) wF_X7_132 rfl dX7_sign_1 ?_
      refine lv_aload_n hx hb dX7_sign_4 rfl (lv_at hl 0 rfl) ?_
      refine r_get cX inX7 hw hR.1.1 rfl 6 (by decide) wF_X7_129 rfl dX7_sign_5 ?_
      refine lv_icmp_ge (tgt := 38) hx hb dX7_sign_8 (by decide) (fun c8 => ?_) (fun c8 => ?_)
      · have hs : sk T ln i = i := sk_ge (ix_ge (by omega) (by omega) c8)
        refine lv_aload_n hx hb dX7_sign_38 rfl (lv_at hl 0 rfl) ?_
        refine r_get cX inX7 hw hR.1.1 rfl 7 (by decide) wF_X7_132 rfl dX7_sign_39 ?_
        refine lv_aload_n hx hb dX7_sign_42 rfl (lv_at hl 0 rfl) ?_
        refine r_get cX inX7 hw hR.1.1 rfl 6 (by decide) wF_X7_129 rfl dX7_sign_43 ?_
        refine lv_icmp_ge (tgt := 61) hx hb dX7_sign_46 (by decide) (fun c46 => ?_) (fun c46 => ?_)
        · refine lv_bipush (v := (-9)) hx hb dX7_sign_61 (by decide) ?_
          exact r_iret cX hr hlocks hw ⟨by rw [← hk, hs]; exact (if_neg (Nat.not_lt.mpr (ix_ge (by omega) (by omega) c8))).symm, by rw [← hk, hs]; exact hR⟩ dX7_sign_63
        · exact absurd c8 c46
      · have hlt : i < ln := ix_lt (by omega) c8
        refine lv_aload_n hx hb dX7_sign_11 rfl (lv_at hl 0 rfl) ?_
        refine r_get cX inX7 hw hR.1.1 rfl 5 (by decide) wF_X7_23 rfl dX7_sign_12 ?_
        refine lv_aload_n hx hb dX7_sign_15 rfl (lv_at hl 0 rfl) ?_
        refine r_get cX inX7 hw hR.1.1 rfl 7 (by decide) wF_X7_132 rfl dX7_sign_16 ?_
        refine r_iald (v := T i) cX hw hR.1.2.2.2.2.2.1 i rfl (by omega) (by decide) rfl dX7_sign_19 ?_
        refine lv_bipush (v := 32) hx hb dX7_sign_20 (by decide) ?_
        refine lv_icmp_ne (tgt := 38) hx hb dX7_sign_22 (by decide) (fun c22 => ?_) (fun c22 => ?_)
        · have hs : sk T ln i = i := by rw [sk_step hlt, if_neg c22]
          refine lv_aload_n hx hb dX7_sign_38 rfl (lv_at hl 0 rfl) ?_
          refine r_get cX inX7 hw hR.1.1 rfl 7 (by decide) wF_X7_132 rfl dX7_sign_39 ?_
          refine lv_aload_n hx hb dX7_sign_42 rfl (lv_at hl 0 rfl) ?_
          refine r_get cX inX7 hw hR.1.1 rfl 6 (by decide) wF_X7_129 rfl dX7_sign_43 ?_
          refine lv_icmp_ge (tgt := 61) hx hb dX7_sign_46 (by decide) (fun c46 => ?_) (fun c46 => ?_)
          · exact absurd c46 c8
          · refine lv_aload_n hx hb dX7_sign_49 rfl (lv_at hl 0 rfl) ?_
            refine r_get cX inX7 hw hR.1.1 rfl 5 (by decide) wF_X7_23 rfl dX7_sign_50 ?_
            refine lv_aload_n hx hb dX7_sign_53 rfl (lv_at hl 0 rfl) ?_
            refine r_get cX inX7 hw hR.1.1 rfl 7 (by decide) wF_X7_132 rfl dX7_sign_54 ?_
            refine r_iald (v := T i) cX hw hR.1.2.2.2.2.2.1 i rfl (by omega) (by decide) rfl dX7_sign_57 ?_
            refine lv_goto (tgt := 63) hx hb dX7_sign_58 (by decide) ?_
            exact r_iret cX hr hlocks hw ⟨by rw [← hk, hs]; exact (if_pos hlt).symm, by rw [← hk, hs]; exact hR⟩ dX7_sign_63
        · refine lv_aload_n hx hb dX7_sign_25 rfl (lv_at hl 0 rfl) ?_
          refine lv_dup hx hb dX7_sign_26 rfl ?_
          refine r_get cX inX7 hw hR.1.1 rfl 7 (by decide) wF_X7_132 rfl dX7_sign_27 ?_
          refine lv_iconst (v := 1) hx hb dX7_sign_30 (by decide) ?_
          refine lv_iadd hx hb dX7_sign_31 ?_
          refine r_put (fs' := rfO b ct (nI ln) ((nI i) + 1) (nI k)) cX inX7 tyX7 tyX7_ok nmX7 hw hR.1.1 rfl 7 (by decide) wF_X7_132 rfl rfl rfl rfl (Nat.le_of_ble_eq_true rfl) dX7_sign_32 (fun H locs hw => ?_)
          have hR := hR.ob (ct' := ct) (len' := nI ln) (at_' := (nI i) + 1) (it' := nI k)
          rw [nI_1] at hw hR
          refine lv_goto (tgt := 0) hx hb dX7_sign_35 (by decide) ?_
          exact ih (i + 1) (by omega) (by omega) _ _ _ _ hw hR (by rw [← hk, sk_step hlt, if_pos c22]) (lv_sub hl [0] rfl)
  exact lp0 (ln + 1) qq (by omega) (by omega) _ _ _ _ hw hR rfl (lv_sub hl [0] rfl)

set_option maxHeartbeats 4000000 in
set_option maxRecDepth 100000 in
theorem c_X7_reads (l : Launch) (G : gG) {M : HM} {b : Nat → Nat} {f sv sl fl T iF iN : Nat → Int32} {ct : Int32} {ln qq k : Nat} (hR0 : IsRf G M b f sv sl fl T iF iN ct (nI ln) (nI qq) (nI k)) (hln : ln ≤ 120) (hqq : qq ≤ ln) (ch : Int32) (h1 : ¬ ch = -1) (h9 : ¬ ch = -9) : Ci l yX7_reads cX7_reads 3 .boolean (rd 1 0 0) G [.ref (b 0), .int ch] M (fun r M' => r = (if cd T ln (sk T ln qq) = ch then 1 else 0) ∧ Rf G M M' b f sv sl fl T iF iN ct (nI ln) (nI (if cd T ln (sk T ln qq) = ch then sk T ln qq + 1 else sk T ln qq)) (nI k)) := by
  refine Ci.of (by decide) (Nat.le_of_ble_eq_true rfl) ?_
  intro p e s m args below meth c ls cX hw hlocks hr hl
  have hx := cX.1
  have hb := cX.2.1
  have hl : lv_has ls 3 [(0, .ref (b 0)), (1, .int ch)] := hl
  have hR := hR0.rf
  refine lv_aload_n hx hb dX7_reads_0 rfl (lv_at hl 0 rfl) ?_
  refine r_Vi cX hw hR.1.1 rfl [] (c_X7_sign l G hR.1 hln hqq) wM_X7_135 mw_X7_sign ⟨Nat.le_of_ble_eq_true rfl, Nat.le_of_ble_eq_true rfl⟩ rfl rfl hl.1 (Nat.le_of_ble_eq_true rfl) dX7_reads_1 ⟨Nat.le_of_ble_eq_true rfl, Nat.le_of_ble_eq_true rfl⟩ (fun r M1 H locs hp hw => ?_)
  obtain ⟨hr1, hp⟩ := hp
  subst hr1
  have hR := hR.trans hp
  refine lv_iload_n hx hb dX7_reads_4 rfl (lv_at hl 1 rfl) ?_
  refine lv_icmp_ne (tgt := 12) hx hb dX7_reads_5 (by decide) (fun c5 => ?_) (fun c5 => ?_)
  · refine lv_iconst (v := 0) hx hb dX7_reads_12 (by decide) ?_
    refine lv_istore_n (lv' := [(2, .int 0), (0, .ref (b 0)), (1, .int ch)]) hx hb dX7_reads_13 rfl hl (by decide) rfl (fun ls hl => ?_)
    refine lv_aload_n hx hb dX7_reads_14 rfl (lv_at hl 1 rfl) ?_
    refine lv_dup hx hb dX7_reads_15 rfl ?_
    refine r_get cX inX7 hw hR.1.1 rfl 7 (by decide) wF_X7_132 rfl dX7_reads_16 ?_
    refine lv_iload_n hx hb dX7_reads_19 rfl (lv_at hl 0 rfl) ?_
    refine lv_if_eq (tgt := 27) hx hb dX7_reads_20 (by decide) (fun _ => ?_) (fun h => absurd h (by decide))
    refine lv_iconst (v := 0) hx hb dX7_reads_27 (by decide) ?_
    refine lv_iadd hx hb dX7_reads_28 ?_
    refine r_put (fs' := rfO b ct (nI ln) ((nI (sk T ln qq)) + 0) (nI k)) cX inX7 tyX7 tyX7_ok nmX7 hw hR.1.1 rfl 7 (by decide) wF_X7_132 rfl rfl rfl rfl (Nat.le_of_ble_eq_true rfl) dX7_reads_29 (fun H locs hw => ?_)
    have hR := hR.ob (ct' := ct) (len' := nI ln) (at_' := (nI (sk T ln qq)) + 0) (it' := nI k)
    rw [Int32.add_zero] at hw hR
    refine lv_iload_n hx hb dX7_reads_32 rfl (lv_at hl 0 rfl) ?_
    exact r_zret cX hr hlocks rfl hw ⟨(if_neg (fun h => c5 ((cs_cd h1 h9).mpr h))).symm, by rw [if_neg (fun h => c5 ((cs_cd h1 h9).mpr h))]; exact hR⟩ dX7_reads_33
  · refine lv_iconst (v := 1) hx hb dX7_reads_8 (by decide) ?_
    refine lv_goto (tgt := 13) hx hb dX7_reads_9 (by decide) ?_
    refine lv_istore_n (lv' := [(2, .int 1), (0, .ref (b 0)), (1, .int ch)]) hx hb dX7_reads_13 rfl hl (by decide) rfl (fun ls hl => ?_)
    refine lv_aload_n hx hb dX7_reads_14 rfl (lv_at hl 1 rfl) ?_
    refine lv_dup hx hb dX7_reads_15 rfl ?_
    refine r_get cX inX7 hw hR.1.1 rfl 7 (by decide) wF_X7_132 rfl dX7_reads_16 ?_
    refine lv_iload_n hx hb dX7_reads_19 rfl (lv_at hl 0 rfl) ?_
    refine lv_if_eq (tgt := 27) hx hb dX7_reads_20 (by decide) (fun h => absurd h (by decide)) (fun _ => ?_)
    refine lv_iconst (v := 1) hx hb dX7_reads_23 (by decide) ?_
    refine lv_goto (tgt := 28) hx hb dX7_reads_24 (by decide) ?_
    refine lv_iadd hx hb dX7_reads_28 ?_
    refine r_put (fs' := rfO b ct (nI ln) ((nI (sk T ln qq)) + 1) (nI k)) cX inX7 tyX7 tyX7_ok nmX7 hw hR.1.1 rfl 7 (by decide) wF_X7_132 rfl rfl rfl rfl (Nat.le_of_ble_eq_true rfl) dX7_reads_29 (fun H locs hw => ?_)
    have hR := hR.ob (ct' := ct) (len' := nI ln) (at_' := (nI (sk T ln qq)) + 1) (it' := nI k)
    rw [nI_1] at hw hR
    refine lv_iload_n hx hb dX7_reads_32 rfl (lv_at hl 0 rfl) ?_
    exact r_zret cX hr hlocks rfl hw ⟨(if_pos ((cs_cd h1 h9).mp c5)).symm, by rw [if_pos ((cs_cd h1 h9).mp c5)]; exact hR⟩ dX7_reads_33

set_option maxHeartbeats 4000000 in
set_option maxRecDepth 100000 in
theorem c_X7_number (l : Launch) (G : gG) {M : HM} {b : Nat → Nat} {f sv sl fl T iF iN : Nat → Int32} {ct : Int32} {ln qq k : Nat} (hR0 : IsRf G M b f sv sl fl T iF iN ct (nI ln) (nI qq) (nI k)) (hln : ln ≤ 120) (hqq : qq ≤ ln) : Ci l yX7_number cX7_number 3 .int (rd 1 0 0) G [.ref (b 0)] M (fun r M' => r = (nmr T ln qq).1 ∧ Rf G M M' b f sv sl fl T iF iN ct (nI ln) (nI (nmr T ln qq).2) (nI k)) := by
  refine Ci.of (by decide) (Nat.le_of_ble_eq_true rfl) ?_
  intro p e s m args below meth c ls cX hw hlocks hr hl
  have hx := cX.1
  have hb := cX.2.1
  have hl : lv_has ls 3 [(0, .ref (b 0))] := hl
  have hR := hR0.rf
  refine lv_aload_n hx hb dX7_number_0 rfl (lv_at hl 0 rfl) ?_
  refine r_Vi cX hw hR.1.1 rfl [] (c_X7_sign l G hR.1 hln hqq) wM_X7_135 mw_X7_sign ⟨Nat.le_of_ble_eq_true rfl, Nat.le_of_ble_eq_true rfl⟩ rfl rfl hl.1 (Nat.le_of_ble_eq_true rfl) dX7_number_1 ⟨Nat.le_of_ble_eq_true rfl, Nat.le_of_ble_eq_true rfl⟩ (fun r M1 H locs hp hw => ?_)
  obtain ⟨hr1, hp⟩ := hp
  subst hr1
  have hR := hR.trans hp
  refine lv_bipush (v := 48) hx hb dX7_number_4 (by decide) ?_
  refine lv_bipush (v := 57) hx hb dX7_number_6 (by decide) ?_
  refine r_Si cX hw [.int (cs T ln (sk T ln qq)), .int 48, .int 57] (c_X7_in l G (cs T ln (sk T ln qq)) 48 57) wM_X7_36 mw_X7_in ⟨Nat.le_of_ble_eq_true rfl, Nat.le_of_ble_eq_true rfl⟩ rfl rfl hl.1 (Nat.le_of_ble_eq_true rfl) dX7_number_8 ⟨Nat.le_of_ble_eq_true rfl, Nat.le_of_ble_eq_true rfl⟩ (fun r M1 H locs hp hw => ?_)
  obtain ⟨hr1, hq⟩ := hp
  subst hr1
  rw [hq] at hw
  refine lv_if_ne (tgt := 17) hx hb dX7_number_11 (by decide) (fun c11 => ?_) (fun c11 => ?_)
  · have hd : dgB T ln (sk T ln qq) = true := dg_cs (if01n c11)
    refine lv_iconst (v := 0) hx hb dX7_number_17 (by decide) ?_
    refine lv_istore_n (lv' := [(1, .int 0), (0, .ref (b 0))]) hx hb dX7_number_18 rfl hl (by decide) rfl (fun ls hl => ?_)
    refine lv_iconst (v := 0) hx hb dX7_number_19 (by decide) ?_
    refine lv_istore_n (lv' := [(2, .int 0), (1, .int 0), (0, .ref (b 0))]) hx hb dX7_number_20 rfl hl (by decide) rfl (fun ls hl => ?_)
    have lp21 : ∀ (nn i : Nat), i ≤ 4 → 4 < i + nn → ∀ (x2 : Int32) (w : Nat) (M1 : HM) (H : Heap) (locs : List Loc) (ls : Array Slot), Wd G (dm M s.heap.size) s.heap M1 H locs → Rf G M M1 b f sv sl fl T iF iN ct (nI ln) (nI w) (nI k) → NP T ln (sk T ln qq) i x2 w → w ≤ ln → lv_has ls 3 [(2, .int x2), (1, .int (nI i)), (0, .ref (b 0))] → W p l e (rd 1 0 0) s m args below meth c H locs 0 0 (MQ below (QI G M s.heap.size (fun r M' => r = (nmr T ln qq).1 ∧ Rf G M M' b f sv sl fl T iF iN ct (nI ln) (nI (nmr T ln qq).2) (nI k))) args s 0 0 (dm M s.heap.size)) (F0 m 21 ls []) := by
      intro nn
      induction nn with
      | zero =>
        intro i h1 h2
        exact absurd h2 (by omega)
      | succ nn ih =>
        intro i hi hin x2 w M1 H locs ls hw hR hk hwn hl
        refine lv_aload_n hx hb dX7_number_21 rfl (lv_at hl 2 rfl) ?_
        refine r_get cX inX7 hw hR.1.1 rfl 7 (by decide) wF_X7_132 rfl dX7_number_22 ?_
        refine lv_aload_n hx hb dX7_number_25 rfl (lv_at hl 2 rfl) ?_
        refine r_get cX inX7 hw hR.1.1 rfl 6 (by decide) wF_X7_129 rfl dX7_number_26 ?_
        refine lv_icmp_ge (tgt := 102) hx hb dX7_number_29 (by decide) (fun c29 => ?_) (fun c29 => ?_)
        · have hdw : ¬ dgB T ln w = true := fun h => absurd (dg_lt h).1 (Nat.not_lt.mpr (ix_ge (by omega) (by omega) c29))
          refine lv_iload_n hx hb dX7_number_102 rfl (lv_at hl 0 rfl) ?_
          exact r_iret cX hr hlocks hw ⟨by unfold nmr; rw [if_pos hd, hk.stop hd hdw, if_neg hdw], by unfold nmr; rw [if_pos hd, hk.stop hd hdw, if_neg hdw]; exact hR⟩ dX7_number_103
        · have hwl : w < ln := ix_lt (by omega) c29
          refine lv_aload_n hx hb dX7_number_32 rfl (lv_at hl 2 rfl) ?_
          refine r_get cX inX7 hw hR.1.1 rfl 5 (by decide) wF_X7_23 rfl dX7_number_33 ?_
          refine lv_aload_n hx hb dX7_number_36 rfl (lv_at hl 2 rfl) ?_
          refine r_get cX inX7 hw hR.1.1 rfl 7 (by decide) wF_X7_132 rfl dX7_number_37 ?_
          refine r_iald (v := T w) cX hw hR.1.2.2.2.2.2.1 w rfl (by omega) (by decide) rfl dX7_number_40 ?_
          refine lv_bipush (v := 48) hx hb dX7_number_41 (by decide) ?_
          refine lv_bipush (v := 57) hx hb dX7_number_43 (by decide) ?_
          refine r_Si cX hw [.int (T w), .int 48, .int 57] (c_X7_in l G (T w) 48 57) wM_X7_36 mw_X7_in ⟨Nat.le_of_ble_eq_true rfl, Nat.le_of_ble_eq_true rfl⟩ rfl rfl hl.1 (Nat.le_of_ble_eq_true rfl) dX7_number_45 ⟨Nat.le_of_ble_eq_true rfl, Nat.le_of_ble_eq_true rfl⟩ (fun r M1 H locs hp hw => ?_)
          obtain ⟨hr1, hq⟩ := hp
          subst hr1
          rw [hq] at hw
          refine lv_if_eq (tgt := 102) hx hb dX7_number_48 (by decide) (fun c48 => ?_) (fun c48 => ?_)
          · have hdw : ¬ dgB T ln w = true := fun h => if01e c48 (dg_lt h).2
            refine lv_iload_n hx hb dX7_number_102 rfl (lv_at hl 0 rfl) ?_
            exact r_iret cX hr hlocks hw ⟨by unfold nmr; rw [if_pos hd, hk.stop hd hdw, if_neg hdw], by unfold nmr; rw [if_pos hd, hk.stop hd hdw, if_neg hdw]; exact hR⟩ dX7_number_103
          · have hdw : dgB T ln w = true := by simp only [dgB, decide_eq_true_eq]; exact ⟨hwl, if01n c48⟩
            refine lv_iload_n hx hb dX7_number_51 rfl (lv_at hl 1 rfl) ?_
            refine lv_iconst (v := 4) hx hb dX7_number_52 (by decide) ?_
            refine lv_icmp_eq (tgt := 65) hx hb dX7_number_53 (by decide) (fun c53 => ?_) (fun c53 => ?_)
            · have hbad := hk.bad (Or.inl ((nI_eq (by omega) (by decide)).mp c53))
              refine lv_bipush (v := (-9)) hx hb dX7_number_65 (by decide) ?_
              exact r_iret cX hr hlocks hw ⟨by unfold nmr; rw [if_pos hd, hbad, if_pos hdw], by unfold nmr; rw [if_pos hd, hbad, if_pos hdw]; exact hR⟩ dX7_number_67
            · refine lv_iload_n hx hb dX7_number_56 rfl (lv_at hl 1 rfl) ?_
              refine lv_iconst (v := 1) hx hb dX7_number_57 (by decide) ?_
              refine lv_icmp_ne (tgt := 68) hx hb dX7_number_58 (by decide) (fun c58 => ?_) (fun c58 => ?_)
              · have h1 : ¬ (i = 1 ∧ x2 = 0) := fun h => c58 (by rw [h.1]; rfl)
                have hi4 : i < 4 := by rcases Nat.lt_or_ge i 4 with q | q; exact q; exact absurd (show nI i = 4 from (by rw [Nat.le_antisymm hi q]; rfl)) c53
                refine lv_bipush (v := 10) hx hb dX7_number_68 (by decide) ?_
                refine lv_iload_n hx hb dX7_number_70 rfl (lv_at hl 0 rfl) ?_
                refine lv_imul hx hb dX7_number_71 ?_
                refine lv_aload_n hx hb dX7_number_72 rfl (lv_at hl 2 rfl) ?_
                refine r_get cX inX7 hw hR.1.1 rfl 5 (by decide) wF_X7_23 rfl dX7_number_73 ?_
                refine lv_aload_n hx hb dX7_number_76 rfl (lv_at hl 2 rfl) ?_
                refine r_get cX inX7 hw hR.1.1 rfl 7 (by decide) wF_X7_132 rfl dX7_number_77 ?_
                refine r_iald (v := T w) cX hw hR.1.2.2.2.2.2.1 w rfl (by omega) (by decide) rfl dX7_number_80 ?_
                refine lv_iadd hx hb dX7_number_81 ?_
                refine lv_bipush (v := 48) hx hb dX7_number_82 (by decide) ?_
                refine lv_isub hx hb dX7_number_84 ?_
                refine lv_istore_n (lv' := [(2, .int (((10 * x2) + (T w)) - 48)), (1, .int (nI i)), (0, .ref (b 0))]) hx hb dX7_number_85 rfl hl (by decide) rfl (fun ls hl => ?_)
                refine lv_iinc (v := (nI (i + 1))) (lv' := [(1, .int (nI (i + 1))), (2, .int (((10 * x2) + (T w)) - 48)), (0, .ref (b 0))]) hx hb dX7_number_86 hl (k := 1) rfl (nI_1 i) (by decide) rfl (fun ls hl => ?_)
                refine lv_aload_n hx hb dX7_number_89 rfl (lv_at hl 2 rfl) ?_
                refine lv_dup hx hb dX7_number_90 rfl ?_
                refine r_get cX inX7 hw hR.1.1 rfl 7 (by decide) wF_X7_132 rfl dX7_number_91 ?_
                refine lv_iconst (v := 1) hx hb dX7_number_94 (by decide) ?_
                refine lv_iadd hx hb dX7_number_95 ?_
                refine r_put (fs' := rfO b ct (nI ln) ((nI w) + 1) (nI k)) cX inX7 tyX7 tyX7_ok nmX7 hw hR.1.1 rfl 7 (by decide) wF_X7_132 rfl rfl rfl rfl (Nat.le_of_ble_eq_true rfl) dX7_number_96 (fun H locs hw => ?_)
                have hR := hR.ob (ct' := ct) (len' := nI ln) (at_' := (nI w) + 1) (it' := nI k)
                rw [nI_1] at hw hR
                refine lv_goto (tgt := 21) hx hb dX7_number_99 (by decide) ?_
                exact ih (i + 1) (by omega) (by omega) (10 * x2 + T w - 48) (w + 1) _ _ _ _ hw hR (hk.step hi4 hdw h1) hwl (lv_sub hl [1, 0, 2] rfl)
              · refine lv_iload_n hx hb dX7_number_61 rfl (lv_at hl 0 rfl) ?_
                refine lv_if_ne (tgt := 68) hx hb dX7_number_62 (by decide) (fun c62 => ?_) (fun c62 => ?_)
                · have h1 : ¬ (i = 1 ∧ x2 = 0) := fun h => c62 h.2
                  have hi4 : i < 4 := by rcases Nat.lt_or_ge i 4 with q | q; exact q; exact absurd (show nI i = 4 from (by rw [Nat.le_antisymm hi q]; rfl)) c53
                  refine lv_bipush (v := 10) hx hb dX7_number_68 (by decide) ?_
                  refine lv_iload_n hx hb dX7_number_70 rfl (lv_at hl 0 rfl) ?_
                  refine lv_imul hx hb dX7_number_71 ?_
                  refine lv_aload_n hx hb dX7_number_72 rfl (lv_at hl 2 rfl) ?_
                  refine r_get cX inX7 hw hR.1.1 rfl 5 (by decide) wF_X7_23 rfl dX7_number_73 ?_
                  refine lv_aload_n hx hb dX7_number_76 rfl (lv_at hl 2 rfl) ?_
                  refine r_get cX inX7 hw hR.1.1 rfl 7 (by decide) wF_X7_132 rfl dX7_number_77 ?_
                  refine r_iald (v := T w) cX hw hR.1.2.2.2.2.2.1 w rfl (by omega) (by decide) rfl dX7_number_80 ?_
                  refine lv_iadd hx hb dX7_number_81 ?_
                  refine lv_bipush (v := 48) hx hb dX7_number_82 (by decide) ?_
                  refine lv_isub hx hb dX7_number_84 ?_
                  refine lv_istore_n (lv' := [(2, .int (((10 * x2) + (T w)) - 48)), (1, .int (nI i)), (0, .ref (b 0))]) hx hb dX7_number_85 rfl hl (by decide) rfl (fun ls hl => ?_)
                  refine lv_iinc (v := (nI (i + 1))) (lv' := [(1, .int (nI (i + 1))), (2, .int (((10 * x2) + (T w)) - 48)), (0, .ref (b 0))]) hx hb dX7_number_86 hl (k := 1) rfl (nI_1 i) (by decide) rfl (fun ls hl => ?_)
                  refine lv_aload_n hx hb dX7_number_89 rfl (lv_at hl 2 rfl) ?_
                  refine lv_dup hx hb dX7_number_90 rfl ?_
                  refine r_get cX inX7 hw hR.1.1 rfl 7 (by decide) wF_X7_132 rfl dX7_number_91 ?_
                  refine lv_iconst (v := 1) hx hb dX7_number_94 (by decide) ?_
                  refine lv_iadd hx hb dX7_number_95 ?_
                  refine r_put (fs' := rfO b ct (nI ln) ((nI w) + 1) (nI k)) cX inX7 tyX7 tyX7_ok nmX7 hw hR.1.1 rfl 7 (by decide) wF_X7_132 rfl rfl rfl rfl (Nat.le_of_ble_eq_true rfl) dX7_number_96 (fun H locs hw => ?_)
                  have hR := hR.ob (ct' := ct) (len' := nI ln) (at_' := (nI w) + 1) (it' := nI k)
                  rw [nI_1] at hw hR
                  refine lv_goto (tgt := 21) hx hb dX7_number_99 (by decide) ?_
                  exact ih (i + 1) (by omega) (by omega) (10 * x2 + T w - 48) (w + 1) _ _ _ _ hw hR (hk.step hi4 hdw h1) hwl (lv_sub hl [1, 0, 2] rfl)
                · have hbad := hk.bad (Or.inr ⟨(nI_eq (by omega) (by decide)).mp c58, c62⟩)
                  refine lv_bipush (v := (-9)) hx hb dX7_number_65 (by decide) ?_
                  exact r_iret cX hr hlocks hw ⟨by unfold nmr; rw [if_pos hd, hbad, if_pos hdw], by unfold nmr; rw [if_pos hd, hbad, if_pos hdw]; exact hR⟩ dX7_number_67
    exact lp21 (4 + 1) 0 (by omega) (by omega) 0 (sk T ln qq) _ _ _ _ hw hR (Or.inl ⟨rfl, rfl, rfl⟩) (sk_n hqq) (lv_sub hl [0, 1, 2] rfl)
  · have hd : ¬ dgB T ln (sk T ln qq) = true := fun h => if01e c11 (cs_dg h)
    refine lv_bipush (v := (-9)) hx hb dX7_number_14 (by decide) ?_
    exact r_iret cX hr hlocks hw ⟨by unfold nmr; rw [if_neg hd], by unfold nmr; rw [if_neg hd]; exact hR⟩ dX7_number_16

set_option maxHeartbeats 4000000 in
set_option maxRecDepth 100000 in
theorem c_X7_readItem (l : Launch) (G : gG) {M : HM} {b : Nat → Nat} {f sv sl fl T iF iN : Nat → Int32} {ct : Int32} {ln qq k : Nat} (hR0 : IsRf G M b f sv sl fl T iF iN ct (nI ln) (nI qq) (nI k)) (hln : ln ≤ 120) (hqq : qq ≤ ln) (hk60 : k < 60) : Ci l yX7_readItem cX7_readItem 3 .boolean (rd 3 0 0) G [.ref (b 0)] M (fun r M' => r = (if (rJ T ln qq).1 = none then 0 else 1) ∧ Rf G M M' b f sv sl fl T (iFo iF k (rJ T ln qq).1) (iNo iN k (rJ T ln qq).1) ct (nI ln) (nI (rJ T ln qq).2) (nI (iKo k (rJ T ln qq).1))) := by
  refine Ci.of (by decide) (Nat.le_of_ble_eq_true rfl) ?_
  intro p e s m args below meth c ls cX hw hlocks hr hl
  have hx := cX.1
  have hb := cX.2.1
  have hl : lv_has ls 3 [(0, .ref (b 0))] := hl
  have hR := hR0.rf
  refine lv_bipush (v := (-9)) hx hb dX7_readItem_0 (by decide) ?_
  refine lv_istore_n (lv' := [(1, .int (-9)), (0, .ref (b 0))]) hx hb dX7_readItem_2 rfl hl (by decide) rfl (fun ls hl => ?_)
  refine lv_aload_n hx hb dX7_readItem_3 rfl (lv_at hl 1 rfl) ?_
  refine lv_bipush (v := 102) hx hb dX7_readItem_4 (by decide) ?_
  refine r_Vi cX hw hR.1.1 rfl [.int 102] (c_X7_reads l G hR.1 hln hqq 102 (by decide) (by decide)) wM_X7_138 mw_X7_reads ⟨Nat.le_of_ble_eq_true rfl, Nat.le_of_ble_eq_true rfl⟩ rfl rfl hl.1 (Nat.le_of_ble_eq_true rfl) dX7_readItem_6 ⟨Nat.le_of_ble_eq_true rfl, Nat.le_of_ble_eq_true rfl⟩ (fun r M1 H locs hp hw => ?_)
  obtain ⟨hr1, hp⟩ := hp
  have hR := hR.trans hp
  by_cases a6 : cd T ln (sk T ln qq) = 102
  · rw [if_pos a6] at hr1 hR
    subst hr1
    refine lv_if_eq (tgt := 34) hx hb dX7_readItem_9 (by decide) (fun h => absurd h (by decide)) (fun _ => ?_)
    refine lv_aload_n hx hb dX7_readItem_12 rfl (lv_at hl 1 rfl) ?_
    refine r_Vi cX hw hR.1.1 rfl [] (c_X7_number l G hR.1 hln (show _ + 1 ≤ ln from cd_lt (by decide) a6)) wM_X7_141 mw_X7_number ⟨Nat.le_of_ble_eq_true rfl, Nat.le_of_ble_eq_true rfl⟩ rfl rfl hl.1 (Nat.le_of_ble_eq_true rfl) dX7_readItem_13 ⟨Nat.le_of_ble_eq_true rfl, Nat.le_of_ble_eq_true rfl⟩ (fun r M1 H locs hp hw => ?_)
    obtain ⟨hr1, hp⟩ := hp
    subst hr1
    have hR := hR.trans hp
    refine lv_istore_n (lv' := [(1, .int ((nmr T ln (sk T ln qq + 1)).1)), (0, .ref (b 0))]) hx hb dX7_readItem_16 rfl hl (by decide) rfl (fun ls hl => ?_)
    refine lv_iload_n hx hb dX7_readItem_17 rfl (lv_at hl 0 rfl) ?_
    refine lv_bipush (v := (-9)) hx hb dX7_readItem_18 (by decide) ?_
    refine lv_icmp_eq (tgt := 32) hx hb dX7_readItem_20 (by decide) (fun c20 => ?_) (fun c20 => ?_)
    · refine lv_iconst (v := 0) hx hb dX7_readItem_32 (by decide) ?_
      have hv : rJ T ln qq = (none, (nmr T ln (sk T ln qq + 1)).2) := by unfold rJ; rw [if_pos a6, if_pos c20]
      exact r_zret cX hr hlocks rfl hw ⟨by rw [hv]; rfl, by rw [hv]; exact hR⟩ dX7_readItem_33
    · refine lv_aload_n hx hb dX7_readItem_23 rfl (lv_at hl 1 rfl) ?_
      refine lv_bipush (v := 44) hx hb dX7_readItem_24 (by decide) ?_
      refine r_Vi cX hw hR.1.1 rfl [.int 44] (c_X7_reads l G hR.1 hln (nmr_n (show _ + 1 ≤ ln from cd_lt (by decide) a6)) 44 (by decide) (by decide)) wM_X7_138 mw_X7_reads ⟨Nat.le_of_ble_eq_true rfl, Nat.le_of_ble_eq_true rfl⟩ rfl rfl hl.1 (Nat.le_of_ble_eq_true rfl) dX7_readItem_26 ⟨Nat.le_of_ble_eq_true rfl, Nat.le_of_ble_eq_true rfl⟩ (fun r M1 H locs hp hw => ?_)
      obtain ⟨hr1, hp⟩ := hp
      have hR := hR.trans hp
      by_cases a26 : cd T ln (sk T ln ((nmr T ln (sk T ln qq + 1)).2)) = 44
      · rw [if_pos a26] at hr1 hR
        subst hr1
        refine lv_if_ne (tgt := 45) hx hb dX7_readItem_29 (by decide) (fun _ => ?_) (fun h => absurd h (by decide))
        refine lv_aload_n hx hb dX7_readItem_45 rfl (lv_at hl 1 rfl) ?_
        refine r_Vi cX hw hR.1.1 rfl [] (c_X7_number l G hR.1 hln (show _ + 1 ≤ ln from cd_lt (by decide) a26)) wM_X7_141 mw_X7_number ⟨Nat.le_of_ble_eq_true rfl, Nat.le_of_ble_eq_true rfl⟩ rfl rfl hl.1 (Nat.le_of_ble_eq_true rfl) dX7_readItem_46 ⟨Nat.le_of_ble_eq_true rfl, Nat.le_of_ble_eq_true rfl⟩ (fun r M1 H locs hp hw => ?_)
        obtain ⟨hr1, hp⟩ := hp
        subst hr1
        have hR := hR.trans hp
        refine lv_istore_n (lv' := [(2, .int ((nmr T ln (sk T ln ((nmr T ln (sk T ln qq + 1)).2) + 1)).1)), (1, .int ((nmr T ln (sk T ln qq + 1)).1)), (0, .ref (b 0))]) hx hb dX7_readItem_49 rfl hl (by decide) rfl (fun ls hl => ?_)
        refine lv_iload_n hx hb dX7_readItem_50 rfl (lv_at hl 0 rfl) ?_
        refine lv_bipush (v := (-9)) hx hb dX7_readItem_51 (by decide) ?_
        refine lv_icmp_eq (tgt := 65) hx hb dX7_readItem_53 (by decide) (fun c53 => ?_) (fun c53 => ?_)
        · refine lv_iconst (v := 0) hx hb dX7_readItem_65 (by decide) ?_
          have hv : rJ T ln qq = (none, (nmr T ln (sk T ln ((nmr T ln (sk T ln qq + 1)).2) + 1)).2) := by unfold rJ; rw [if_pos a6, if_neg c20, if_pos a26]; unfold rJ2; rw [if_pos c53]
          exact r_zret cX hr hlocks rfl hw ⟨by rw [hv]; rfl, by rw [hv]; exact hR⟩ dX7_readItem_66
        · refine lv_aload_n hx hb dX7_readItem_56 rfl (lv_at hl 2 rfl) ?_
          refine lv_bipush (v := 59) hx hb dX7_readItem_57 (by decide) ?_
          refine r_Vi cX hw hR.1.1 rfl [.int 59] (c_X7_reads l G hR.1 hln (nmr_n (show _ + 1 ≤ ln from cd_lt (by decide) a26)) 59 (by decide) (by decide)) wM_X7_138 mw_X7_reads ⟨Nat.le_of_ble_eq_true rfl, Nat.le_of_ble_eq_true rfl⟩ rfl rfl hl.1 (Nat.le_of_ble_eq_true rfl) dX7_readItem_59 ⟨Nat.le_of_ble_eq_true rfl, Nat.le_of_ble_eq_true rfl⟩ (fun r M1 H locs hp hw => ?_)
          obtain ⟨hr1, hp⟩ := hp
          have hR := hR.trans hp
          by_cases a59 : cd T ln (sk T ln ((nmr T ln (sk T ln ((nmr T ln (sk T ln qq + 1)).2) + 1)).2)) = 59
          · rw [if_pos a59] at hr1 hR
            subst hr1
            refine lv_if_ne (tgt := 67) hx hb dX7_readItem_62 (by decide) (fun _ => ?_) (fun h => absurd h (by decide))
            refine lv_aload_n hx hb dX7_readItem_67 rfl (lv_at hl 2 rfl) ?_
            refine r_get cX inX7 hw hR.1.1 rfl 9 (by decide) wF_X7_26 rfl dX7_readItem_68 ?_
            refine lv_aload_n hx hb dX7_readItem_71 rfl (lv_at hl 2 rfl) ?_
            refine r_get cX inX7 hw hR.1.1 rfl 8 (by decide) wF_X7_144 rfl dX7_readItem_72 ?_
            refine lv_iload_n hx hb dX7_readItem_75 rfl (lv_at hl 1 rfl) ?_
            refine r_iast cX hw hR.1.2.2.2.2.2.2.1 k rfl hk60 (by decide) dX7_readItem_76 (fun H locs hw => ?_)
            have hR := hR.a6 (x := upd iF k ((nmr T ln (sk T ln qq + 1)).1))
            refine lv_aload_n hx hb dX7_readItem_77 rfl (lv_at hl 2 rfl) ?_
            refine r_get cX inX7 hw hR.1.1 rfl 10 (by decide) wF_X7_29 rfl dX7_readItem_78 ?_
            refine lv_aload_n hx hb dX7_readItem_81 rfl (lv_at hl 2 rfl) ?_
            refine r_get cX inX7 hw hR.1.1 rfl 8 (by decide) wF_X7_144 rfl dX7_readItem_82 ?_
            refine lv_iload_n hx hb dX7_readItem_85 rfl (lv_at hl 0 rfl) ?_
            refine r_iast cX hw hR.1.2.2.2.2.2.2.2.1 k rfl hk60 (by decide) dX7_readItem_86 (fun H locs hw => ?_)
            have hR := hR.a7 (x := upd iN k ((nmr T ln (sk T ln ((nmr T ln (sk T ln qq + 1)).2) + 1)).1))
            refine lv_aload_n hx hb dX7_readItem_87 rfl (lv_at hl 2 rfl) ?_
            refine lv_dup hx hb dX7_readItem_88 rfl ?_
            refine r_get cX inX7 hw hR.1.1 rfl 8 (by decide) wF_X7_144 rfl dX7_readItem_89 ?_
            refine lv_iconst (v := 1) hx hb dX7_readItem_92 (by decide) ?_
            refine lv_iadd hx hb dX7_readItem_93 ?_
            refine r_put (fs' := rfO b ct (nI ln) (nI (sk T ln ((nmr T ln (sk T ln ((nmr T ln (sk T ln qq + 1)).2) + 1)).2) + 1)) ((nI k) + 1)) cX inX7 tyX7 tyX7_ok nmX7 hw hR.1.1 rfl 8 (by decide) wF_X7_144 rfl rfl rfl rfl (Nat.le_of_ble_eq_true rfl) dX7_readItem_94 (fun H locs hw => ?_)
            have hR := hR.ob (ct' := ct) (len' := nI ln) (at_' := nI (sk T ln ((nmr T ln (sk T ln ((nmr T ln (sk T ln qq + 1)).2) + 1)).2) + 1)) (it' := (nI k) + 1)
            rw [nI_1] at hw hR
            refine lv_iconst (v := 1) hx hb dX7_readItem_97 (by decide) ?_
            have hv : rJ T ln qq = (some (some ((nmr T ln (sk T ln qq + 1)).1), (nmr T ln (sk T ln ((nmr T ln (sk T ln qq + 1)).2) + 1)).1), sk T ln ((nmr T ln (sk T ln ((nmr T ln (sk T ln qq + 1)).2) + 1)).2) + 1) := by unfold rJ; rw [if_pos a6, if_neg c20, if_pos a26]; unfold rJ2; rw [if_neg c53, if_pos a59]
            exact r_zret cX hr hlocks rfl hw ⟨by rw [hv]; rfl, by rw [hv]; exact hR⟩ dX7_readItem_98
          · rw [if_neg a59] at hr1 hR
            subst hr1
            refine lv_if_ne (tgt := 67) hx hb dX7_readItem_62 (by decide) (fun h => absurd h (by decide)) (fun _ => ?_)
            refine lv_iconst (v := 0) hx hb dX7_readItem_65 (by decide) ?_
            have hv : rJ T ln qq = (none, sk T ln ((nmr T ln (sk T ln ((nmr T ln (sk T ln qq + 1)).2) + 1)).2)) := by unfold rJ; rw [if_pos a6, if_neg c20, if_pos a26]; unfold rJ2; rw [if_neg c53, if_neg a59]
            exact r_zret cX hr hlocks rfl hw ⟨by rw [hv]; rfl, by rw [hv]; exact hR⟩ dX7_readItem_66
      · rw [if_neg a26] at hr1 hR
        subst hr1
        refine lv_if_ne (tgt := 45) hx hb dX7_readItem_29 (by decide) (fun h => absurd h (by decide)) (fun _ => ?_)
        refine lv_iconst (v := 0) hx hb dX7_readItem_32 (by decide) ?_
        have hv : rJ T ln qq = (none, sk T ln ((nmr T ln (sk T ln qq + 1)).2)) := by unfold rJ; rw [if_pos a6, if_neg c20, if_neg a26]
        exact r_zret cX hr hlocks rfl hw ⟨by rw [hv]; rfl, by rw [hv]; exact hR⟩ dX7_readItem_33
  · rw [if_neg a6] at hr1 hR
    subst hr1
    refine lv_if_eq (tgt := 34) hx hb dX7_readItem_9 (by decide) (fun _ => ?_) (fun h => absurd h (by decide))
    refine lv_aload_n hx hb dX7_readItem_34 rfl (lv_at hl 1 rfl) ?_
    refine lv_bipush (v := 116) hx hb dX7_readItem_35 (by decide) ?_
    refine r_Vi cX hw hR.1.1 rfl [.int 116] (c_X7_reads l G hR.1 hln (sk_n hqq) 116 (by decide) (by decide)) wM_X7_138 mw_X7_reads ⟨Nat.le_of_ble_eq_true rfl, Nat.le_of_ble_eq_true rfl⟩ rfl rfl hl.1 (Nat.le_of_ble_eq_true rfl) dX7_readItem_37 ⟨Nat.le_of_ble_eq_true rfl, Nat.le_of_ble_eq_true rfl⟩ (fun r M1 H locs hp hw => ?_)
    obtain ⟨hr1, hp⟩ := hp
    rw [sk_sk] at hr1 hp
    have hR := hR.trans hp
    by_cases a37 : cd T ln (sk T ln qq) = 116
    · rw [if_pos a37] at hr1 hR
      subst hr1
      refine lv_if_ne (tgt := 45) hx hb dX7_readItem_40 (by decide) (fun _ => ?_) (fun h => absurd h (by decide))
      refine lv_aload_n hx hb dX7_readItem_45 rfl (lv_at hl 1 rfl) ?_
      refine r_Vi cX hw hR.1.1 rfl [] (c_X7_number l G hR.1 hln (show _ + 1 ≤ ln from cd_lt (by decide) a37)) wM_X7_141 mw_X7_number ⟨Nat.le_of_ble_eq_true rfl, Nat.le_of_ble_eq_true rfl⟩ rfl rfl hl.1 (Nat.le_of_ble_eq_true rfl) dX7_readItem_46 ⟨Nat.le_of_ble_eq_true rfl, Nat.le_of_ble_eq_true rfl⟩ (fun r M1 H locs hp hw => ?_)
      obtain ⟨hr1, hp⟩ := hp
      subst hr1
      have hR := hR.trans hp
      refine lv_istore_n (lv' := [(2, .int ((nmr T ln (sk T ln qq + 1)).1)), (1, .int (-9)), (0, .ref (b 0))]) hx hb dX7_readItem_49 rfl hl (by decide) rfl (fun ls hl => ?_)
      refine lv_iload_n hx hb dX7_readItem_50 rfl (lv_at hl 0 rfl) ?_
      refine lv_bipush (v := (-9)) hx hb dX7_readItem_51 (by decide) ?_
      refine lv_icmp_eq (tgt := 65) hx hb dX7_readItem_53 (by decide) (fun c53 => ?_) (fun c53 => ?_)
      · refine lv_iconst (v := 0) hx hb dX7_readItem_65 (by decide) ?_
        have hv : rJ T ln qq = (none, (nmr T ln (sk T ln qq + 1)).2) := by unfold rJ; rw [if_neg a6, if_pos a37]; unfold rJ2; rw [if_pos c53]
        exact r_zret cX hr hlocks rfl hw ⟨by rw [hv]; rfl, by rw [hv]; exact hR⟩ dX7_readItem_66
      · refine lv_aload_n hx hb dX7_readItem_56 rfl (lv_at hl 2 rfl) ?_
        refine lv_bipush (v := 59) hx hb dX7_readItem_57 (by decide) ?_
        refine r_Vi cX hw hR.1.1 rfl [.int 59] (c_X7_reads l G hR.1 hln (nmr_n (show _ + 1 ≤ ln from cd_lt (by decide) a37)) 59 (by decide) (by decide)) wM_X7_138 mw_X7_reads ⟨Nat.le_of_ble_eq_true rfl, Nat.le_of_ble_eq_true rfl⟩ rfl rfl hl.1 (Nat.le_of_ble_eq_true rfl) dX7_readItem_59 ⟨Nat.le_of_ble_eq_true rfl, Nat.le_of_ble_eq_true rfl⟩ (fun r M1 H locs hp hw => ?_)
        obtain ⟨hr1, hp⟩ := hp
        have hR := hR.trans hp
        by_cases a59 : cd T ln (sk T ln ((nmr T ln (sk T ln qq + 1)).2)) = 59
        · rw [if_pos a59] at hr1 hR
          subst hr1
          refine lv_if_ne (tgt := 67) hx hb dX7_readItem_62 (by decide) (fun _ => ?_) (fun h => absurd h (by decide))
          refine lv_aload_n hx hb dX7_readItem_67 rfl (lv_at hl 2 rfl) ?_
          refine r_get cX inX7 hw hR.1.1 rfl 9 (by decide) wF_X7_26 rfl dX7_readItem_68 ?_
          refine lv_aload_n hx hb dX7_readItem_71 rfl (lv_at hl 2 rfl) ?_
          refine r_get cX inX7 hw hR.1.1 rfl 8 (by decide) wF_X7_144 rfl dX7_readItem_72 ?_
          refine lv_iload_n hx hb dX7_readItem_75 rfl (lv_at hl 1 rfl) ?_
          refine r_iast cX hw hR.1.2.2.2.2.2.2.1 k rfl hk60 (by decide) dX7_readItem_76 (fun H locs hw => ?_)
          have hR := hR.a6 (x := upd iF k (-9))
          refine lv_aload_n hx hb dX7_readItem_77 rfl (lv_at hl 2 rfl) ?_
          refine r_get cX inX7 hw hR.1.1 rfl 10 (by decide) wF_X7_29 rfl dX7_readItem_78 ?_
          refine lv_aload_n hx hb dX7_readItem_81 rfl (lv_at hl 2 rfl) ?_
          refine r_get cX inX7 hw hR.1.1 rfl 8 (by decide) wF_X7_144 rfl dX7_readItem_82 ?_
          refine lv_iload_n hx hb dX7_readItem_85 rfl (lv_at hl 0 rfl) ?_
          refine r_iast cX hw hR.1.2.2.2.2.2.2.2.1 k rfl hk60 (by decide) dX7_readItem_86 (fun H locs hw => ?_)
          have hR := hR.a7 (x := upd iN k ((nmr T ln (sk T ln qq + 1)).1))
          refine lv_aload_n hx hb dX7_readItem_87 rfl (lv_at hl 2 rfl) ?_
          refine lv_dup hx hb dX7_readItem_88 rfl ?_
          refine r_get cX inX7 hw hR.1.1 rfl 8 (by decide) wF_X7_144 rfl dX7_readItem_89 ?_
          refine lv_iconst (v := 1) hx hb dX7_readItem_92 (by decide) ?_
          refine lv_iadd hx hb dX7_readItem_93 ?_
          refine r_put (fs' := rfO b ct (nI ln) (nI (sk T ln ((nmr T ln (sk T ln qq + 1)).2) + 1)) ((nI k) + 1)) cX inX7 tyX7 tyX7_ok nmX7 hw hR.1.1 rfl 8 (by decide) wF_X7_144 rfl rfl rfl rfl (Nat.le_of_ble_eq_true rfl) dX7_readItem_94 (fun H locs hw => ?_)
          have hR := hR.ob (ct' := ct) (len' := nI ln) (at_' := nI (sk T ln ((nmr T ln (sk T ln qq + 1)).2) + 1)) (it' := (nI k) + 1)
          rw [nI_1] at hw hR
          refine lv_iconst (v := 1) hx hb dX7_readItem_97 (by decide) ?_
          have hv : rJ T ln qq = (some (none, (nmr T ln (sk T ln qq + 1)).1), sk T ln ((nmr T ln (sk T ln qq + 1)).2) + 1) := by unfold rJ; rw [if_neg a6, if_pos a37]; unfold rJ2; rw [if_neg c53, if_pos a59]
          exact r_zret cX hr hlocks rfl hw ⟨by rw [hv]; rfl, by rw [hv]; exact hR⟩ dX7_readItem_98
        · rw [if_neg a59] at hr1 hR
          subst hr1
          refine lv_if_ne (tgt := 67) hx hb dX7_readItem_62 (by decide) (fun h => absurd h (by decide)) (fun _ => ?_)
          refine lv_iconst (v := 0) hx hb dX7_readItem_65 (by decide) ?_
          have hv : rJ T ln qq = (none, sk T ln ((nmr T ln (sk T ln qq + 1)).2)) := by unfold rJ; rw [if_neg a6, if_pos a37]; unfold rJ2; rw [if_neg c53, if_neg a59]
          exact r_zret cX hr hlocks rfl hw ⟨by rw [hv]; rfl, by rw [hv]; exact hR⟩ dX7_readItem_66
    · rw [if_neg a37] at hr1 hR
      subst hr1
      refine lv_if_ne (tgt := 45) hx hb dX7_readItem_40 (by decide) (fun h => absurd h (by decide)) (fun _ => ?_)
      refine lv_iconst (v := 0) hx hb dX7_readItem_43 (by decide) ?_
      have hv : rJ T ln qq = (none, sk T ln qq) := by unfold rJ; rw [if_neg a6, if_neg a37]
      exact r_zret cX hr hlocks rfl hw ⟨by rw [hv]; rfl, by rw [hv]; exact hR⟩ dX7_readItem_44
