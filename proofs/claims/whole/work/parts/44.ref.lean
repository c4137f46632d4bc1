theorem sv_pop {F : Nat → Nat → Int32} {nx ct : Nat} {sv f' : Nat → Int32} (h : SVr F nx ct sv) (hnx : nx < 8) (hct : ct ≤ 8) (h0 : 0 < ct) : SVr (uF F 0 f') ((nx + 7) % 8) (ct - 1) sv := by
  intro k hk i hi
  rw [uF_ne _ _ (by omega), h k (by omega) i hi, show (nx + 8 - ct + k) % 8 + 1 = ((nx + 7) % 8 + 8 - (ct - 1) + k) % 8 + 1 by omega]
theorem sl_0 {F : Nat → Nat → Int32} {fl sl f' : Nat → Int32} (h : SLr F fl sl) : SLr (uF F 0 f') fl sl := by
  intro s hs hf i hi
  rw [uF_ne _ _ (by omega)]
  exact h s hs hf i hi
theorem sv_slot {F : Nat → Nat → Int32} {nx ct : Nat} {sv g : Nat → Int32} (h : SVr F nx ct sv) (k : Nat) (hk : k < 2) : SVr (uF F (k + 9) g) nx ct sv := by
  intro j hj i hi
  rw [uF_ne _ _ (by omega)]
  exact h j hj i hi
theorem sl_save {F : Nat → Nat → Int32} {fl sl w : Nat → Int32} (h : SLr F fl sl) {k : Nat} (hk : k < 2) (h1 : ∀ j, j < 153 → w (153 * k + j) = F 0 j) (h2 : ∀ q, (q < 153 * k ∨ 153 * k + 153 ≤ q) → w q = sl q) : SLr (uF F (k + 9) (F 0)) (upd fl k 1) w := by
  intro s hs hf i hi
  by_cases e : s = k
  · subst e
    rw [uF_at]
    exact h1 i hi
  · rw [uF_ne _ _ (by omega), h2 (153 * s + i) (by omega)]
    rw [pk_un e] at hf
    exact h s hs hf i hi
theorem wn0 {x t : Int32} (h : (if 1 ≤ x ∧ x ≤ 1000 then (if x ≤ tmx - t then (0 : Int32) else -2) else -1) = 0) : (1 ≤ x ∧ x ≤ 1000) ∧ x ≤ tmx - t := by
  by_cases a : 1 ≤ x ∧ x ≤ 1000
  · rw [if_pos a] at h
    by_cases c : x ≤ tmx - t
    · exact ⟨a, c⟩
    · rw [if_neg c] at h
      exact absurd h (by decide)
  · rw [if_neg a] at h
    exact absurd h (by decide)
theorem s_adv_e {x r : Int32} {F : Nat → Nat → Int32} {nx ct len : Nat} {fl T : Nat → Int32} (hr : r = (if 1 ≤ x ∧ x ≤ 1000 then (if x ≤ tmx - F 0 0 then (0 : Int32) else -2) else -1)) (h : ¬ r = 0) : s_advance x (F, nx, ct, fl, T, len) = (r, (F, nx, ct, fl, T, len)) := by
  unfold s_advance
  dsimp only
  by_cases a : 1 ≤ x ∧ x ≤ 1000
  · rw [if_pos a] at hr ⊢
    by_cases c : x ≤ tmx - F 0 0
    · rw [if_pos c] at hr
      exact absurd hr h
    · rw [if_neg c] at hr ⊢
      rw [hr]
  · rw [if_neg a] at hr ⊢
    rw [hr]
set_option maxHeartbeats 4000000 in
set_option maxRecDepth 100000 in
theorem c_X7_keep (l : Launch) (G : gG) {M : HM} {b : Nat → Nat} {f sv sl fl T iF iN : Nat → Int32} {cn : Nat} {len at_ it : Int32} (hR0 : IsRf G M b f sv sl fl T iF iN (nI cn) len at_ it) (hc8 : cn ≤ 8) : Cv l yX7_keep cX7_keep 2 (rd 0 0 0) G [.ref (b 0)] M (fun M' => ∃ sv', Rf G M M' b f sv' sl fl T iF iN (nI (min (cn + 1) 8)) len at_ it ∧ KP sv sv' f cn) := by
  refine Cv.of (by decide) (Nat.le_of_ble_eq_true rfl) ?_
  intro p e s m args below meth c ls cX hw hlocks hr hnm hl
  have hx := cX.1
  have hb := cX.2.1
  have hl : lv_has ls 2 [(0, .ref (b 0))] := hl
  have hR := hR0.rf
  refine lv_aload_n hx hb dX7_keep_0 rfl (lv_at hl 0 rfl) ?_
  refine r_get cX inX7 hw hR.1.1 rfl 2 (by decide) wF_X7_40 rfl dX7_keep_1 ?_
  refine lv_bipush (v := 8) hx hb dX7_keep_4 (by decide) ?_
  refine lv_icmp_ne (tgt := 50) hx hb dX7_keep_6 (by decide) (fun c6 => ?_) (fun c6 => ?_)
  · have hc7 : cn < 8 := by rcases Nat.lt_or_ge cn 8 with q | q; exact q; exact absurd (show nI cn = 8 by rw [show cn = 8 by omega]; rfl) c6
    refine lv_iconst (v := 0) hx hb dX7_keep_50 (by decide) ?_
    refine lv_istore_n (lv' := [(1, .int 0), (0, .ref (b 0))]) hx hb dX7_keep_51 rfl hl (by decide) rfl (fun ls hl => ?_)
    have lp52 : ∀ (nn i : Nat), i ≤ 153 → 153 < i + nn → ∀ (w : Nat → Int32) (M1 : HM) (H : Heap) (locs : List Loc) (ls : Array Slot), Wd G (dm M s.heap.size) s.heap M1 H locs → Rf G M M1 b f w sl fl T iF iN (nI cn) len at_ it → ((∀ j, j < i → w (153 * cn + j) = f j) ∧ ∀ k, k < 153 * cn → w k = sv k) → lv_has ls 2 [(1, .int (nI i)), (0, .ref (b 0))] → W p l e (rd 0 0 0) s m args below meth c H locs 0 0 (MQ below (QV G M s.heap.size (fun M' => ∃ sv', Rf G M M' b f sv' sl fl T iF iN (nI (min (cn + 1) 8)) len at_ it ∧ KP sv sv' f cn)) args s 0 0 (dm M s.heap.size)) (F0 m 52 ls []) := by
      intro nn
      induction nn with
      | zero =>
        intro i h1 h2
        exact absurd h2 (by omega)
      | succ nn ih =>
        intro i hi hin w M1 H locs ls hw hR hB hl
        refine lv_iload_n hx hb dX7_keep_52 rfl (lv_at hl 0 rfl) ?_
        refine lv_sipush (v := 153) hx hb dX7_keep_53 (by decide) ?_
        refine lv_icmp_ge (tgt := 86) hx hb dX7_keep_56 (by decide) (fun c56 => ?_) (fun c56 => ?_)
        · obtain rfl : i = 153 := Nat.le_antisymm hi (ix_ge (b := 153) (by omega) (by decide) c56)
          refine lv_aload_n hx hb dX7_keep_86 rfl (lv_at hl 1 rfl) ?_
          refine lv_dup hx hb dX7_keep_87 rfl ?_
          refine r_get cX inX7 hw hR.1.1 rfl 2 (by decide) wF_X7_40 rfl dX7_keep_88 ?_
          refine lv_iconst (v := 1) hx hb dX7_keep_91 (by decide) ?_
          refine lv_iadd hx hb dX7_keep_92 ?_
          refine r_put (fs' := rfO b ((nI cn) + 1) len at_ it) cX inX7 tyX7 tyX7_ok nmX7 hw hR.1.1 rfl 2 (by decide) wF_X7_40 rfl rfl rfl rfl (Nat.le_of_ble_eq_true rfl) dX7_keep_93 (fun H locs hw => ?_)
          have hR := hR.ob (ct' := (nI cn) + 1) (len' := len) (at_' := at_) (it' := it)
          rw [nI_1] at hw hR
          exact r_vret cX hr hlocks hw ⟨w, by rw [show min (cn + 1) 8 = cn + 1 by omega]; exact hR, fun i hi => by rw [show min cn 7 = cn by omega]; exact hB.1 i hi, fun k i hk hi => by rw [if_neg (by omega)]; exact hB.2 (153 * k + i) (by omega)⟩ dX7_keep_96
        · have hlt : i < 153 := ix_lt (b := 153) (by omega) c56
          refine lv_aload_n hx hb dX7_keep_59 rfl (lv_at hl 1 rfl) ?_
          refine r_get cX inX7 hw hR.1.1 rfl 1 (by decide) wF_X7_13 rfl dX7_keep_60 ?_
          refine lv_sipush (v := 153) hx hb dX7_keep_63 (by decide) ?_
          refine lv_aload_n hx hb dX7_keep_66 rfl (lv_at hl 1 rfl) ?_
          refine r_get cX inX7 hw hR.1.1 rfl 2 (by decide) wF_X7_40 rfl dX7_keep_67 ?_
          refine lv_imul hx hb dX7_keep_70 ?_
          refine lv_iload_n hx hb dX7_keep_71 rfl (lv_at hl 0 rfl) ?_
          refine lv_iadd hx hb dX7_keep_72 ?_
          refine lv_aload_n hx hb dX7_keep_73 rfl (lv_at hl 1 rfl) ?_
          refine r_get cX inX7 hw hR.1.1 rfl 0 (by decide) wF_X7_7 rfl dX7_keep_74 ?_
          refine lv_iload_n hx hb dX7_keep_77 rfl (lv_at hl 0 rfl) ?_
          refine r_iald (v := f i) cX hw hR.1.2.1 i rfl (by omega) (by decide) rfl dX7_keep_78 ?_
          refine r_iast cX hw hR.1.2.2.1 (153 * cn + i) (by rw [show (153 : Int32) * nI cn = nI (153 * cn) from pk_mul 153 cn, nI_add]) (by omega) (by decide) dX7_keep_79 (fun H locs hw => ?_)
          have hR := hR.a2 (x := upd w (153 * cn + i) (f i))
          refine lv_iinc (v := (nI (i + 1))) (lv' := [(1, .int (nI (i + 1))), (0, .ref (b 0))]) hx hb dX7_keep_80 hl (k := 0) rfl (nI_1 i) (by decide) rfl (fun ls hl => ?_)
          refine lv_goto (tgt := 52) hx hb dX7_keep_83 (by decide) ?_
          exact ih (i + 1) (by omega) (by omega) (upd w (153 * cn + i) (f i)) _ _ _ _ hw hR (⟨fun j hj => by unfold upd; split; (rename_i q; rw [show j = i by omega]); exact hB.1 j (by omega), fun k hk => by rw [pk_un (by omega)]; exact hB.2 k hk⟩) (lv_sub hl [0, 1] rfl)
    exact lp52 (153 + 1) 0 (by omega) (by omega) sv _ _ _ _ hw hR (⟨fun j hj => absurd hj (by omega), fun k _ => rfl⟩) (lv_sub hl [0, 1] rfl)
  · have hc9 : cn = 8 := (nI_eq (by omega) (by decide)).mp c6
    refine lv_iconst (v := 0) hx hb dX7_keep_9 (by decide) ?_
    refine lv_istore_n (lv' := [(1, .int 0), (0, .ref (b 0))]) hx hb dX7_keep_10 rfl hl (by decide) rfl (fun ls hl => ?_)
    have lp11 : ∀ (nn i : Nat), i ≤ 1071 → 1071 < i + nn → ∀ (w : Nat → Int32) (M1 : HM) (H : Heap) (locs : List Loc) (ls : Array Slot), Wd G (dm M s.heap.size) s.heap M1 H locs → Rf G M M1 b f w sl fl T iF iN (nI cn) len at_ it → ((∀ k, k < i → w k = sv (k + 153)) ∧ ∀ k, i ≤ k → w k = sv k) → lv_has ls 2 [(1, .int (nI i)), (0, .ref (b 0))] → W p l e (rd 0 0 0) s m args below meth c H locs 0 0 (MQ below (QV G M s.heap.size (fun M' => ∃ sv', Rf G M M' b f sv' sl fl T iF iN (nI (min (cn + 1) 8)) len at_ it ∧ KP sv sv' f cn)) args s 0 0 (dm M s.heap.size)) (F0 m 11 ls []) := by
      intro nn
      induction nn with
      | zero =>
        intro i h1 h2
        exact absurd h2 (by omega)
      | succ nn ih =>
        intro i hi hin w M1 H locs ls hw hR hA hl
        refine lv_iload_n hx hb dX7_keep_11 rfl (lv_at hl 0 rfl) ?_
        refine lv_sipush (v := 1071) hx hb dX7_keep_12 (by decide) ?_
        refine lv_icmp_ge (tgt := 40) hx hb dX7_keep_15 (by decide) (fun c15 => ?_) (fun c15 => ?_)
        · obtain rfl : i = 1071 := Nat.le_antisymm hi (ix_ge (b := 1071) (by omega) (by decide) c15)
          obtain ⟨wa, hwa⟩ : ∃ z, z = w := ⟨_, rfl⟩
          subst hwa
          refine lv_aload_n hx hb dX7_keep_40 rfl (lv_at hl 1 rfl) ?_
          refine lv_dup hx hb dX7_keep_41 rfl ?_
          refine r_get cX inX7 hw hR.1.1 rfl 2 (by decide) wF_X7_40 rfl dX7_keep_42 ?_
          refine lv_iconst (v := 1) hx hb dX7_keep_45 (by decide) ?_
          refine lv_isub hx hb dX7_keep_46 ?_
          refine r_put (fs' := rfO b ((nI cn) - 1) len at_ it) cX inX7 tyX7 tyX7_ok nmX7 hw hR.1.1 rfl 2 (by decide) wF_X7_40 rfl rfl rfl rfl (Nat.le_of_ble_eq_true rfl) dX7_keep_47 (fun H locs hw => ?_)
          have hR := hR.ob (ct' := (nI cn) - 1) (len' := len) (at_' := at_) (it' := it)
          rw [show nI cn - 1 = nI 7 from by rw [hc9]; rfl] at hw hR
          refine lv_iconst (v := 0) hx hb dX7_keep_50 (by decide) ?_
          refine lv_istore_n (lv' := [(1, .int 0), (0, .ref (b 0))]) hx hb dX7_keep_51 rfl hl (by decide) rfl (fun ls hl => ?_)
          have lp52 : ∀ (nn i : Nat), i ≤ 153 → 153 < i + nn → ∀ (w : Nat → Int32) (M1 : HM) (H : Heap) (locs : List Loc) (ls : Array Slot), Wd G (dm M s.heap.size) s.heap M1 H locs → Rf G M M1 b f w sl fl T iF iN (nI 7) len at_ it → ((∀ j, j < i → w (153 * 7 + j) = f j) ∧ ∀ k, k < 153 * 7 → w k = wa k) → lv_has ls 2 [(1, .int (nI i)), (0, .ref (b 0))] → W p l e (rd 0 0 0) s m args below meth c H locs 0 0 (MQ below (QV G M s.heap.size (fun M' => ∃ sv', Rf G M M' b f sv' sl fl T iF iN (nI (min (cn + 1) 8)) len at_ it ∧ KP sv sv' f cn)) args s 0 0 (dm M s.heap.size)) (F0 m 52 ls []) := by
            intro nn
            induction nn with
            | zero =>
              intro i h1 h2
              exact absurd h2 (by omega)
            | succ nn ih =>
              intro i hi hin w M1 H locs ls hw hR hB hl
              refine lv_iload_n hx hb dX7_keep_52 rfl (lv_at hl 0 rfl) ?_
              refine lv_sipush (v := 153) hx hb dX7_keep_53 (by decide) ?_
              refine lv_icmp_ge (tgt := 86) hx hb dX7_keep_56 (by decide) (fun c56 => ?_) (fun c56 => ?_)
              · obtain rfl : i = 153 := Nat.le_antisymm hi (ix_ge (b := 153) (by omega) (by decide) c56)
                refine lv_aload_n hx hb dX7_keep_86 rfl (lv_at hl 1 rfl) ?_
                refine lv_dup hx hb dX7_keep_87 rfl ?_
                refine r_get cX inX7 hw hR.1.1 rfl 2 (by decide) wF_X7_40 rfl dX7_keep_88 ?_
                refine lv_iconst (v := 1) hx hb dX7_keep_91 (by decide) ?_
                refine lv_iadd hx hb dX7_keep_92 ?_
                refine r_put (fs' := rfO b ((nI 7) + 1) len at_ it) cX inX7 tyX7 tyX7_ok nmX7 hw hR.1.1 rfl 2 (by decide) wF_X7_40 rfl rfl rfl rfl (Nat.le_of_ble_eq_true rfl) dX7_keep_93 (fun H locs hw => ?_)
                have hR := hR.ob (ct' := (nI 7) + 1) (len' := len) (at_' := at_) (it' := it)
                rw [show nI 7 + 1 = nI 8 from rfl] at hw hR
                exact r_vret cX hr hlocks hw ⟨w, by rw [show min (cn + 1) 8 = 8 by omega]; exact hR, fun i hi => by rw [show min cn 7 = 7 by omega]; exact hB.1 i hi, fun k i hk hi => by rw [if_pos hc9, hB.2 (153 * k + i) (by omega), hA.1 (153 * k + i) (by omega)]; congr 1; omega⟩ dX7_keep_96
              · have hlt : i < 153 := ix_lt (b := 153) (by omega) c56
                refine lv_aload_n hx hb dX7_keep_59 rfl (lv_at hl 1 rfl) ?_
                refine r_get cX inX7 hw hR.1.1 rfl 1 (by decide) wF_X7_13 rfl dX7_keep_60 ?_
                refine lv_sipush (v := 153) hx hb dX7_keep_63 (by decide) ?_
                refine lv_aload_n hx hb dX7_keep_66 rfl (lv_at hl 1 rfl) ?_
                refine r_get cX inX7 hw hR.1.1 rfl 2 (by decide) wF_X7_40 rfl dX7_keep_67 ?_
                refine lv_imul hx hb dX7_keep_70 ?_
                refine lv_iload_n hx hb dX7_keep_71 rfl (lv_at hl 0 rfl) ?_
                refine lv_iadd hx hb dX7_keep_72 ?_
                refine lv_aload_n hx hb dX7_keep_73 rfl (lv_at hl 1 rfl) ?_
                refine r_get cX inX7 hw hR.1.1 rfl 0 (by decide) wF_X7_7 rfl dX7_keep_74 ?_
                refine lv_iload_n hx hb dX7_keep_77 rfl (lv_at hl 0 rfl) ?_
                refine r_iald (v := f i) cX hw hR.1.2.1 i rfl (by omega) (by decide) rfl dX7_keep_78 ?_
                refine r_iast cX hw hR.1.2.2.1 (153 * 7 + i) (by rw [show (153 : Int32) * nI 7 = nI (153 * 7) from pk_mul 153 7, nI_add]) (by omega) (by decide) dX7_keep_79 (fun H locs hw => ?_)
                have hR := hR.a2 (x := upd w (153 * 7 + i) (f i))
                refine lv_iinc (v := (nI (i + 1))) (lv' := [(1, .int (nI (i + 1))), (0, .ref (b 0))]) hx hb dX7_keep_80 hl (k := 0) rfl (nI_1 i) (by decide) rfl (fun ls hl => ?_)
                refine lv_goto (tgt := 52) hx hb dX7_keep_83 (by decide) ?_
                exact ih (i + 1) (by omega) (by omega) (upd w (153 * 7 + i) (f i)) _ _ _ _ hw hR (⟨fun j hj => by unfold upd; split; (rename_i q; rw [show j = i by omega]); exact hB.1 j (by omega), fun k hk => by rw [pk_un (by omega)]; exact hB.2 k hk⟩) (lv_sub hl [0, 1] rfl)
          exact lp52 (153 + 1) 0 (by omega) (by omega) wa _ _ _ _ hw hR (⟨fun j hj => absurd hj (by omega), fun k _ => rfl⟩) (lv_sub hl [0, 1] rfl)
        · have hlt : i < 1071 := ix_lt (b := 1071) (by omega) c15
          refine lv_aload_n hx hb dX7_keep_18 rfl (lv_at hl 1 rfl) ?_
          refine r_get cX inX7 hw hR.1.1 rfl 1 (by decide) wF_X7_13 rfl dX7_keep_19 ?_
          refine lv_iload_n hx hb dX7_keep_22 rfl (lv_at hl 0 rfl) ?_
          refine lv_aload_n hx hb dX7_keep_23 rfl (lv_at hl 1 rfl) ?_
          refine r_get cX inX7 hw hR.1.1 rfl 1 (by decide) wF_X7_13 rfl dX7_keep_24 ?_
          refine lv_iload_n hx hb dX7_keep_27 rfl (lv_at hl 0 rfl) ?_
          refine lv_sipush (v := 153) hx hb dX7_keep_28 (by decide) ?_
          refine lv_iadd hx hb dX7_keep_31 ?_
          refine r_iald (v := w (i + 153)) cX hw hR.1.2.2.1 (i + 153) (nI_add i 153) (by omega) (by decide) rfl dX7_keep_32 ?_
          refine r_iast cX hw hR.1.2.2.1 i rfl (by omega) (by decide) dX7_keep_33 (fun H locs hw => ?_)
          have hR := hR.a2 (x := upd w i (w (i + 153)))
          refine lv_iinc (v := (nI (i + 1))) (lv' := [(1, .int (nI (i + 1))), (0, .ref (b 0))]) hx hb dX7_keep_34 hl (k := 0) rfl (nI_1 i) (by decide) rfl (fun ls hl => ?_)
          refine lv_goto (tgt := 11) hx hb dX7_keep_37 (by decide) ?_
          exact ih (i + 1) (by omega) (by omega) (upd w i (w (i + 153))) _ _ _ _ hw hR (⟨fun k hk => by unfold upd; split; (rename_i q; rw [q, hA.2 (i + 153) (by omega)]); exact hA.1 k (by omega), fun k hk => by rw [pk_un (by omega)]; exact hA.2 k (by omega)⟩) (lv_sub hl [0, 1] rfl)
    exact lp11 (1071 + 1) 0 (by omega) (by omega) sv _ _ _ _ hw hR (⟨fun k hk => absurd hk (by omega), fun k _ => rfl⟩) (lv_sub hl [0, 1] rfl)

set_option maxHeartbeats 4000000 in
set_option maxRecDepth 100000 in
theorem c_X7_change (l : Launch) (G : gG) {M : HM} {b : Nat → Nat} {f sv sl fl T iF iN : Nat → Int32} {cn : Nat} {len at_ it : Int32} (hR0 : IsRf G M b f sv sl fl T iF iN (nI cn) len at_ it) (hc8 : cn ≤ 8) (x v : Int32) (k : Nat) (hxi : x = nI k) (hk : k < 153) : Ci l yX7_change cX7_change 4 .int (rd 1 0 0) G [.ref (b 0), .int x, .int v] M (fun r M' => r = f k ∧ ∃ sv', Rf G M M' b (upd f k v) sv' sl fl T iF iN (nI (min (cn + 1) 8)) len at_ it ∧ KP sv sv' f cn) := by
  refine Ci.of (by decide) (Nat.le_of_ble_eq_true rfl) ?_
  intro p e s m args below meth c ls cX hw hlocks hr hl
  have hx := cX.1
  have hb := cX.2.1
  have hl : lv_has ls 4 [(0, .ref (b 0)), (1, .int x), (2, .int v)] := hl
  have hR := hR0.rf
  refine lv_aload_n hx hb dX7_change_0 rfl (lv_at hl 0 rfl) ?_
  refine r_Vv cX hw hR.1.1 rfl [] (c_X7_keep l G hR.1 hc8) wM_X7_44 mw_X7_keep ⟨Nat.le_of_ble_eq_true rfl, Nat.le_of_ble_eq_true rfl⟩ rfl rfl hl.1 (Nat.le_of_ble_eq_true rfl) dX7_change_1 ⟨Nat.le_of_ble_eq_true rfl, Nat.le_of_ble_eq_true rfl⟩ (fun M1 H locs hp hw => ?_)
  obtain ⟨sv', hp, hkp⟩ := hp
  have hR := hR.trans hp
  refine lv_aload_n hx hb dX7_change_4 rfl (lv_at hl 0 rfl) ?_
  refine r_get cX inX7 hw hR.1.1 rfl 0 (by decide) wF_X7_7 rfl dX7_change_5 ?_
  refine lv_iload_n hx hb dX7_change_8 rfl (lv_at hl 1 rfl) ?_
  refine r_iald (v := f k) cX hw hR.1.2.1 k hxi hk (by decide) rfl dX7_change_9 ?_
  refine lv_istore_n (lv' := [(3, .int (f k)), (0, .ref (b 0)), (1, .int x), (2, .int v)]) hx hb dX7_change_10 rfl hl (by decide) rfl (fun ls hl => ?_)
  refine lv_aload_n hx hb dX7_change_11 rfl (lv_at hl 1 rfl) ?_
  refine r_get cX inX7 hw hR.1.1 rfl 0 (by decide) wF_X7_7 rfl dX7_change_12 ?_
  refine lv_iload_n hx hb dX7_change_15 rfl (lv_at hl 2 rfl) ?_
  refine lv_iload_n hx hb dX7_change_16 rfl (lv_at hl 3 rfl) ?_
  refine r_iast cX hw hR.1.2.1 k hxi hk (by decide) dX7_change_17 (fun H locs hw => ?_)
  have hR := hR.a1 (x := upd f k v)
  refine lv_iload_n hx hb dX7_change_18 rfl (lv_at hl 0 rfl) ?_
  exact r_iret cX hr hlocks hw ⟨rfl, sv', hR, hkp⟩ dX7_change_19

set_option maxHeartbeats 4000000 in
set_option maxRecDepth 100000 in
theorem c_X7_setDelay (l : Launch) (G : gG) {M : HM} {b : Nat → Nat} {F : Nat → Nat → Int32} {nx cn ln : Nat} {sv sl fl T iF iN : Nat → Int32} {at_ it : Int32} (hR0 : IsRf G M b (F 0) sv sl fl T iF iN (nI cn) (nI ln) at_ it) (hsv : SVr F nx cn sv) (hsl : SLr F fl sl) (hnx : nx < 8) (hcn : cn ≤ 8) (hln : ln ≤ 120) {B : Nat} (hv : Inv B (F 0)) (x y : Int32) : Ci l yX7_setDelay cX7_setDelay 3 .int (rd 2 0 0) G [.ref (b 0), .int x, .int y] M (fun r M' => r = (s_setP 9 0 50 x y (F, nx, cn, fl, T, ln)).1 ∧ RZ G M M' b (s_setP 9 0 50 x y (F, nx, cn, fl, T, ln)).2) := by
  refine Ci.of (by decide) (Nat.le_of_ble_eq_true rfl) ?_
  intro p e s m args below meth c ls cX hw hlocks hr hl
  have hx := cX.1
  have hb := cX.2.1
  have hl : lv_has ls 3 [(0, .ref (b 0)), (1, .int x), (2, .int y)] := hl
  have hR := hR0.rf
  refine lv_aload_n hx hb dX7_setDelay_0 rfl (lv_at hl 0 rfl) ?_
  refine lv_iload_n hx hb dX7_setDelay_1 rfl (lv_at hl 1 rfl) ?_
  refine r_Vi cX hw hR.1.1 rfl [.int x] (c_X7_isPath l G hR.1 x) wM_X7_51 mw_X7_isPath ⟨Nat.le_of_ble_eq_true rfl, Nat.le_of_ble_eq_true rfl⟩ rfl rfl hl.1 (Nat.le_of_ble_eq_true rfl) dX7_setDelay_2 ⟨Nat.le_of_ble_eq_true rfl, Nat.le_of_ble_eq_true rfl⟩ (fun r M1 H locs hp hw => ?_)
  obtain ⟨hr1, hq⟩ := hp
  subst hr1
  rw [hq] at hw
  refine lv_if_eq (tgt := 30) hx hb dX7_setDelay_5 (by decide) (fun c5 => ?_) (fun c5 => ?_)
  · refine lv_iconst (v := (-1)) hx hb dX7_setDelay_30 (by decide) ?_
    exact r_iret cX hr hlocks hw (by unfold s_setP; (try dsimp only); rw [if_neg (fun h => if01e c5 h.1)]; exact ⟨rfl, RZ.same hR0 hsv hsl hnx hcn hln⟩) dX7_setDelay_31
  · refine lv_iload_n hx hb dX7_setDelay_8 rfl (lv_at hl 2 rfl) ?_
    refine lv_iconst (v := 0) hx hb dX7_setDelay_9 (by decide) ?_
    refine lv_bipush (v := 50) hx hb dX7_setDelay_10 (by decide) ?_
    refine r_Si cX hw [.int y, .int 0, .int 50] (c_X7_in l G y 0 50) wM_X7_36 mw_X7_in ⟨Nat.le_of_ble_eq_true rfl, Nat.le_of_ble_eq_true rfl⟩ rfl rfl hl.1 (Nat.le_of_ble_eq_true rfl) dX7_setDelay_12 ⟨Nat.le_of_ble_eq_true rfl, Nat.le_of_ble_eq_true rfl⟩ (fun r M1 H locs hp hw => ?_)
    obtain ⟨hr1, hq⟩ := hp
    subst hr1
    rw [hq] at hw
    refine lv_if_eq (tgt := 30) hx hb dX7_setDelay_15 (by decide) (fun c15 => ?_) (fun c15 => ?_)
    · refine lv_iconst (v := (-1)) hx hb dX7_setDelay_30 (by decide) ?_
      exact r_iret cX hr hlocks hw (by unfold s_setP; (try dsimp only); rw [if_neg (fun h => if01e c15 h.2)]; exact ⟨rfl, RZ.same hR0 hsv hsl hnx hcn hln⟩) dX7_setDelay_31
    · refine lv_aload_n hx hb dX7_setDelay_18 rfl (lv_at hl 0 rfl) ?_
      refine lv_bipush (v := 9) hx hb dX7_setDelay_19 (by decide) ?_
      refine lv_iload_n hx hb dX7_setDelay_21 rfl (lv_at hl 1 rfl) ?_
      refine lv_iadd hx hb dX7_setDelay_22 ?_
      refine lv_iload_n hx hb dX7_setDelay_23 rfl (lv_at hl 2 rfl) ?_
      obtain ⟨k, hk, hkP, hxk, hxc⟩ := path_ix hv (if01n c5)
      refine r_Vi cX hw hR.1.1 rfl [.int (9 + x), .int y] (c_X7_change l G hR.1 hcn (9 + x) y (9 + k) (by rw [hxk]; exact nI_add 9 k) (by omega)) wM_X7_55 mw_X7_change ⟨Nat.le_of_ble_eq_true rfl, Nat.le_of_ble_eq_true rfl⟩ rfl rfl hl.1 (Nat.le_of_ble_eq_true rfl) dX7_setDelay_24 ⟨Nat.le_of_ble_eq_true rfl, Nat.le_of_ble_eq_true rfl⟩ (fun r M1 H locs hp hw => ?_)
      obtain ⟨hr1, sv', hp, hkp⟩ := hp
      subst hr1
      have hR := hR.trans hp
      refine lv_goto (tgt := 31) hx hb dX7_setDelay_27 (by decide) ?_
      exact r_iret cX hr hlocks hw (by unfold s_setP; (try dsimp only); rw [if_pos ⟨if01n c5, if01n c15⟩, hxc]; exact ⟨rfl, RZ.psh hR hsv hsl hnx hcn hln hkp⟩) dX7_setDelay_31

set_option maxHeartbeats 4000000 in
set_option maxRecDepth 100000 in
theorem c_X7_setRate (l : Launch) (G : gG) {M : HM} {b : Nat → Nat} {F : Nat → Nat → Int32} {nx cn ln : Nat} {sv sl fl T iF iN : Nat → Int32} {at_ it : Int32} (hR0 : IsRf G M b (F 0) sv sl fl T iF iN (nI cn) (nI ln) at_ it) (hsv : SVr F nx cn sv) (hsl : SLr F fl sl) (hnx : nx < 8) (hcn : cn ≤ 8) (hln : ln ≤ 120) {B : Nat} (hv : Inv B (F 0)) (x y : Int32) : Ci l yX7_setRate cX7_setRate 3 .int (rd 2 0 0) G [.ref (b 0), .int x, .int y] M (fun r M' => r = (s_setP 13 1 100 x y (F, nx, cn, fl, T, ln)).1 ∧ RZ G M M' b (s_setP 13 1 100 x y (F, nx, cn, fl, T, ln)).2) := by
  refine Ci.of (by decide) (Nat.le_of_ble_eq_true rfl) ?_
  intro p e s m args below meth c ls cX hw hlocks hr hl
  have hx := cX.1
  have hb := cX.2.1
  have hl : lv_has ls 3 [(0, .ref (b 0)), (1, .int x), (2, .int y)] := hl
  have hR := hR0.rf
  refine lv_aload_n hx hb dX7_setRate_0 rfl (lv_at hl 0 rfl) ?_
  refine lv_iload_n hx hb dX7_setRate_1 rfl (lv_at hl 1 rfl) ?_
  refine r_Vi cX hw hR.1.1 rfl [.int x] (c_X7_isPath l G hR.1 x) wM_X7_51 mw_X7_isPath ⟨Nat.le_of_ble_eq_true rfl, Nat.le_of_ble_eq_true rfl⟩ rfl rfl hl.1 (Nat.le_of_ble_eq_true rfl) dX7_setRate_2 ⟨Nat.le_of_ble_eq_true rfl, Nat.le_of_ble_eq_true rfl⟩ (fun r M1 H locs hp hw => ?_)
  obtain ⟨hr1, hq⟩ := hp
  subst hr1
  rw [hq] at hw
  refine lv_if_eq (tgt := 30) hx hb dX7_setRate_5 (by decide) (fun c5 => ?_) (fun c5 => ?_)
  · refine lv_iconst (v := (-1)) hx hb dX7_setRate_30 (by decide) ?_
    exact r_iret cX hr hlocks hw (by unfold s_setP; (try dsimp only); rw [if_neg (fun h => if01e c5 h.1)]; exact ⟨rfl, RZ.same hR0 hsv hsl hnx hcn hln⟩) dX7_setRate_31
  · refine lv_iload_n hx hb dX7_setRate_8 rfl (lv_at hl 2 rfl) ?_
    refine lv_iconst (v := 1) hx hb dX7_setRate_9 (by decide) ?_
    refine lv_bipush (v := 100) hx hb dX7_setRate_10 (by decide) ?_
    refine r_Si cX hw [.int y, .int 1, .int 100] (c_X7_in l G y 1 100) wM_X7_36 mw_X7_in ⟨Nat.le_of_ble_eq_true rfl, Nat.le_of_ble_eq_true rfl⟩ rfl rfl hl.1 (Nat.le_of_ble_eq_true rfl) dX7_setRate_12 ⟨Nat.le_of_ble_eq_true rfl, Nat.le_of_ble_eq_true rfl⟩ (fun r M1 H locs hp hw => ?_)
    obtain ⟨hr1, hq⟩ := hp
    subst hr1
    rw [hq] at hw
    refine lv_if_eq (tgt := 30) hx hb dX7_setRate_15 (by decide) (fun c15 => ?_) (fun c15 => ?_)
    · refine lv_iconst (v := (-1)) hx hb dX7_setRate_30 (by decide) ?_
      exact r_iret cX hr hlocks hw (by unfold s_setP; (try dsimp only); rw [if_neg (fun h => if01e c15 h.2)]; exact ⟨rfl, RZ.same hR0 hsv hsl hnx hcn hln⟩) dX7_setRate_31
    · refine lv_aload_n hx hb dX7_setRate_18 rfl (lv_at hl 0 rfl) ?_
      refine lv_bipush (v := 13) hx hb dX7_setRate_19 (by decide) ?_
      refine lv_iload_n hx hb dX7_setRate_21 rfl (lv_at hl 1 rfl) ?_
      refine lv_iadd hx hb dX7_setRate_22 ?_
      refine lv_iload_n hx hb dX7_setRate_23 rfl (lv_at hl 2 rfl) ?_
      obtain ⟨k, hk, hkP, hxk, hxc⟩ := path_ix hv (if01n c5)
      refine r_Vi cX hw hR.1.1 rfl [.int (13 + x), .int y] (c_X7_change l G hR.1 hcn (13 + x) y (13 + k) (by rw [hxk]; exact nI_add 13 k) (by omega)) wM_X7_55 mw_X7_change ⟨Nat.le_of_ble_eq_true rfl, Nat.le_of_ble_eq_true rfl⟩ rfl rfl hl.1 (Nat.le_of_ble_eq_true rfl) dX7_setRate_24 ⟨Nat.le_of_ble_eq_true rfl, Nat.le_of_ble_eq_true rfl⟩ (fun r M1 H locs hp hw => ?_)
      obtain ⟨hr1, sv', hp, hkp⟩ := hp
      subst hr1
      have hR := hR.trans hp
      refine lv_goto (tgt := 31) hx hb dX7_setRate_27 (by decide) ?_
      exact r_iret cX hr hlocks hw (by unfold s_setP; (try dsimp only); rw [if_pos ⟨if01n c5, if01n c15⟩, hxc]; exact ⟨rfl, RZ.psh hR hsv hsl hnx hcn hln hkp⟩) dX7_setRate_31

set_option maxHeartbeats 4000000 in
set_option maxRecDepth 100000 in
theorem c_X7_setRemoteLevel (l : Launch) (G : gG) {M : HM} {b : Nat → Nat} {F : Nat → Nat → Int32} {nx cn ln : Nat} {sv sl fl T iF iN : Nat → Int32} {at_ it : Int32} (hR0 : IsRf G M b (F 0) sv sl fl T iF iN (nI cn) (nI ln) at_ it) (hsv : SVr F nx cn sv) (hsl : SLr F fl sl) (hnx : nx < 8) (hcn : cn ≤ 8) (hln : ln ≤ 120) {B : Nat} (hv : Inv B (F 0)) (x y : Int32) : Ci l yX7_setRemoteLevel cX7_setRemoteLevel 3 .int (rd 2 0 0) G [.ref (b 0), .int x, .int y] M (fun r M' => r = (s_setP 17 0 7 x y (F, nx, cn, fl, T, ln)).1 ∧ RZ G M M' b (s_setP 17 0 7 x y (F, nx, cn, fl, T, ln)).2) := by
  refine Ci.of (by decide) (Nat.le_of_ble_eq_true rfl) ?_
  intro p e s m args below meth c ls cX hw hlocks hr hl
  have hx := cX.1
  have hb := cX.2.1
  have hl : lv_has ls 3 [(0, .ref (b 0)), (1, .int x), (2, .int y)] := hl
  have hR := hR0.rf
  refine lv_aload_n hx hb dX7_setRemoteLevel_0 rfl (lv_at hl 0 rfl) ?_
  refine lv_iload_n hx hb dX7_setRemoteLevel_1 rfl (lv_at hl 1 rfl) ?_
  refine r_Vi cX hw hR.1.1 rfl [.int x] (c_X7_isPath l G hR.1 x) wM_X7_51 mw_X7_isPath ⟨Nat.le_of_ble_eq_true rfl, Nat.le_of_ble_eq_true rfl⟩ rfl rfl hl.1 (Nat.le_of_ble_eq_true rfl) dX7_setRemoteLevel_2 ⟨Nat.le_of_ble_eq_true rfl, Nat.le_of_ble_eq_true rfl⟩ (fun r M1 H locs hp hw => ?_)
  obtain ⟨hr1, hq⟩ := hp
  subst hr1
  rw [hq] at hw
  refine lv_if_eq (tgt := 30) hx hb dX7_setRemoteLevel_5 (by decide) (fun c5 => ?_) (fun c5 => ?_)
  · refine lv_iconst (v := (-1)) hx hb dX7_setRemoteLevel_30 (by decide) ?_
    exact r_iret cX hr hlocks hw (by unfold s_setP; (try dsimp only); rw [if_neg (fun h => if01e c5 h.1)]; exact ⟨rfl, RZ.same hR0 hsv hsl hnx hcn hln⟩) dX7_setRemoteLevel_31
  · refine lv_iload_n hx hb dX7_setRemoteLevel_8 rfl (lv_at hl 2 rfl) ?_
    refine lv_iconst (v := 0) hx hb dX7_setRemoteLevel_9 (by decide) ?_
    refine lv_bipush (v := 7) hx hb dX7_setRemoteLevel_10 (by decide) ?_
    refine r_Si cX hw [.int y, .int 0, .int 7] (c_X7_in l G y 0 7) wM_X7_36 mw_X7_in ⟨Nat.le_of_ble_eq_true rfl, Nat.le_of_ble_eq_true rfl⟩ rfl rfl hl.1 (Nat.le_of_ble_eq_true rfl) dX7_setRemoteLevel_12 ⟨Nat.le_of_ble_eq_true rfl, Nat.le_of_ble_eq_true rfl⟩ (fun r M1 H locs hp hw => ?_)
    obtain ⟨hr1, hq⟩ := hp
    subst hr1
    rw [hq] at hw
    refine lv_if_eq (tgt := 30) hx hb dX7_setRemoteLevel_15 (by decide) (fun c15 => ?_) (fun c15 => ?_)
    · refine lv_iconst (v := (-1)) hx hb dX7_setRemoteLevel_30 (by decide) ?_
      exact r_iret cX hr hlocks hw (by unfold s_setP; (try dsimp only); rw [if_neg (fun h => if01e c15 h.2)]; exact ⟨rfl, RZ.same hR0 hsv hsl hnx hcn hln⟩) dX7_setRemoteLevel_31
    · refine lv_aload_n hx hb dX7_setRemoteLevel_18 rfl (lv_at hl 0 rfl) ?_
      refine lv_bipush (v := 17) hx hb dX7_setRemoteLevel_19 (by decide) ?_
      refine lv_iload_n hx hb dX7_setRemoteLevel_21 rfl (lv_at hl 1 rfl) ?_
      refine lv_iadd hx hb dX7_setRemoteLevel_22 ?_
      refine lv_iload_n hx hb dX7_setRemoteLevel_23 rfl (lv_at hl 2 rfl) ?_
      obtain ⟨k, hk, hkP, hxk, hxc⟩ := path_ix hv (if01n c5)
      refine r_Vi cX hw hR.1.1 rfl [.int (17 + x), .int y] (c_X7_change l G hR.1 hcn (17 + x) y (17 + k) (by rw [hxk]; exact nI_add 17 k) (by omega)) wM_X7_55 mw_X7_change ⟨Nat.le_of_ble_eq_true rfl, Nat.le_of_ble_eq_true rfl⟩ rfl rfl hl.1 (Nat.le_of_ble_eq_true rfl) dX7_setRemoteLevel_24 ⟨Nat.le_of_ble_eq_true rfl, Nat.le_of_ble_eq_true rfl⟩ (fun r M1 H locs hp hw => ?_)
      obtain ⟨hr1, sv', hp, hkp⟩ := hp
      subst hr1
      have hR := hR.trans hp
      refine lv_goto (tgt := 31) hx hb dX7_setRemoteLevel_27 (by decide) ?_
      exact r_iret cX hr hlocks hw (by unfold s_setP; (try dsimp only); rw [if_pos ⟨if01n c5, if01n c15⟩, hxc]; exact ⟨rfl, RZ.psh hR hsv hsl hnx hcn hln hkp⟩) dX7_setRemoteLevel_31

set_option maxHeartbeats 4000000 in
set_option maxRecDepth 100000 in
theorem c_X7_setMode (l : Launch) (G : gG) {M : HM} {b : Nat → Nat} {F : Nat → Nat → Int32} {nx cn ln : Nat} {sv sl fl T iF iN : Nat → Int32} {at_ it : Int32} (hR0 : IsRf G M b (F 0) sv sl fl T iF iN (nI cn) (nI ln) at_ it) (hsv : SVr F nx cn sv) (hsl : SLr F fl sl) (hnx : nx < 8) (hcn : cn ≤ 8) (hln : ln ≤ 120) (x : Int32) : Ci l yX7_setMode cX7_setMode 2 .int (rd 2 0 0) G [.ref (b 0), .int x] M (fun r M' => r = (s_setS 5 0 3 x (F, nx, cn, fl, T, ln)).1 ∧ RZ G M M' b (s_setS 5 0 3 x (F, nx, cn, fl, T, ln)).2) := by
  refine Ci.of (by decide) (Nat.le_of_ble_eq_true rfl) ?_
  intro p e s m args below meth c ls cX hw hlocks hr hl
  have hx := cX.1
  have hb := cX.2.1
  have hl : lv_has ls 2 [(0, .ref (b 0)), (1, .int x)] := hl
  have hR := hR0.rf
  refine lv_iload_n hx hb dX7_setMode_0 rfl (lv_at hl 1 rfl) ?_
  refine lv_iconst (v := 0) hx hb dX7_setMode_1 (by decide) ?_
  refine lv_iconst (v := 3) hx hb dX7_setMode_2 (by decide) ?_
  refine r_Si cX hw [.int x, .int 0, .int 3] (c_X7_in l G x 0 3) wM_X7_36 mw_X7_in ⟨Nat.le_of_ble_eq_true rfl, Nat.le_of_ble_eq_true rfl⟩ rfl rfl hl.1 (Nat.le_of_ble_eq_true rfl) dX7_setMode_3 ⟨Nat.le_of_ble_eq_true rfl, Nat.le_of_ble_eq_true rfl⟩ (fun r M1 H locs hp hw => ?_)
  obtain ⟨hr1, hq⟩ := hp
  subst hr1
  rw [hq] at hw
  refine lv_if_eq (tgt := 18) hx hb dX7_setMode_6 (by decide) (fun c6 => ?_) (fun c6 => ?_)
  · refine lv_iconst (v := (-1)) hx hb dX7_setMode_18 (by decide) ?_
    exact r_iret cX hr hlocks hw (by unfold s_setS; (try dsimp only); rw [if_neg (if01e c6)]; exact ⟨rfl, RZ.same hR0 hsv hsl hnx hcn hln⟩) dX7_setMode_19
  · refine lv_aload_n hx hb dX7_setMode_9 rfl (lv_at hl 0 rfl) ?_
    refine lv_iconst (v := 5) hx hb dX7_setMode_10 (by decide) ?_
    refine lv_iload_n hx hb dX7_setMode_11 rfl (lv_at hl 1 rfl) ?_
    refine r_Vi cX hw hR.1.1 rfl [.int 5, .int x] (c_X7_change l G hR.1 hcn 5 x 5 rfl (by decide)) wM_X7_55 mw_X7_change ⟨Nat.le_of_ble_eq_true rfl, Nat.le_of_ble_eq_true rfl⟩ rfl rfl hl.1 (Nat.le_of_ble_eq_true rfl) dX7_setMode_12 ⟨Nat.le_of_ble_eq_true rfl, Nat.le_of_ble_eq_true rfl⟩ (fun r M1 H locs hp hw => ?_)
    obtain ⟨hr1, sv', hp, hkp⟩ := hp
    subst hr1
    have hR := hR.trans hp
    refine lv_goto (tgt := 19) hx hb dX7_setMode_15 (by decide) ?_
    exact r_iret cX hr hlocks hw (by unfold s_setS; (try dsimp only); rw [if_pos (if01n c6)]; exact ⟨rfl, RZ.psh hR hsv hsl hnx hcn hln hkp⟩) dX7_setMode_19

set_option maxHeartbeats 4000000 in
set_option maxRecDepth 100000 in
theorem c_X7_setDetection (l : Launch) (G : gG) {M : HM} {b : Nat → Nat} {F : Nat → Nat → Int32} {nx cn ln : Nat} {sv sl fl T iF iN : Nat → Int32} {at_ it : Int32} (hR0 : IsRf G M b (F 0) sv sl fl T iF iN (nI cn) (nI ln) at_ it) (hsv : SVr F nx cn sv) (hsl : SLr F fl sl) (hnx : nx < 8) (hcn : cn ≤ 8) (hln : ln ≤ 120) (x : Int32) : Ci l yX7_setDetection cX7_setDetection 2 .int (rd 2 0 0) G [.ref (b 0), .int x] M (fun r M' => r = (s_setS 4 0 1 x (F, nx, cn, fl, T, ln)).1 ∧ RZ G M M' b (s_setS 4 0 1 x (F, nx, cn, fl, T, ln)).2) := by
  refine Ci.of (by decide) (Nat.le_of_ble_eq_true rfl) ?_
  intro p e s m args below meth c ls cX hw hlocks hr hl
  have hx := cX.1
  have hb := cX.2.1
  have hl : lv_has ls 2 [(0, .ref (b 0)), (1, .int x)] := hl
  have hR := hR0.rf
  refine lv_iload_n hx hb dX7_setDetection_0 rfl (lv_at hl 1 rfl) ?_
  refine lv_iconst (v := 0) hx hb dX7_setDetection_1 (by decide) ?_
  refine lv_iconst (v := 1) hx hb dX7_setDetection_2 (by decide) ?_
  refine r_Si cX hw [.int x, .int 0, .int 1] (c_X7_in l G x 0 1) wM_X7_36 mw_X7_in ⟨Nat.le_of_ble_eq_true rfl, Nat.le_of_ble_eq_true rfl⟩ rfl rfl hl.1 (Nat.le_of_ble_eq_true rfl) dX7_setDetection_3 ⟨Nat.le_of_ble_eq_true rfl, Nat.le_of_ble_eq_true rfl⟩ (fun r M1 H locs hp hw => ?_)
  obtain ⟨hr1, hq⟩ := hp
  subst hr1
  rw [hq] at hw
  refine lv_if_eq (tgt := 18) hx hb dX7_setDetection_6 (by decide) (fun c6 => ?_) (fun c6 => ?_)
  · refine lv_iconst (v := (-1)) hx hb dX7_setDetection_18 (by decide) ?_
    exact r_iret cX hr hlocks hw (by unfold s_setS; (try dsimp only); rw [if_neg (if01e c6)]; exact ⟨rfl, RZ.same hR0 hsv hsl hnx hcn hln⟩) dX7_setDetection_19
  · refine lv_aload_n hx hb dX7_setDetection_9 rfl (lv_at hl 0 rfl) ?_
    refine lv_iconst (v := 4) hx hb dX7_setDetection_10 (by decide) ?_
    refine lv_iload_n hx hb dX7_setDetection_11 rfl (lv_at hl 1 rfl) ?_
    refine r_Vi cX hw hR.1.1 rfl [.int 4, .int x] (c_X7_change l G hR.1 hcn 4 x 4 rfl (by decide)) wM_X7_55 mw_X7_change ⟨Nat.le_of_ble_eq_true rfl, Nat.le_of_ble_eq_true rfl⟩ rfl rfl hl.1 (Nat.le_of_ble_eq_true rfl) dX7_setDetection_12 ⟨Nat.le_of_ble_eq_true rfl, Nat.le_of_ble_eq_true rfl⟩ (fun r M1 H locs hp hw => ?_)
    obtain ⟨hr1, sv', hp, hkp⟩ := hp
    subst hr1
    have hR := hR.trans hp
    refine lv_goto (tgt := 19) hx hb dX7_setDetection_15 (by decide) ?_
    exact r_iret cX hr hlocks hw (by unfold s_setS; (try dsimp only); rw [if_pos (if01n c6)]; exact ⟨rfl, RZ.psh hR hsv hsl hnx hcn hln hkp⟩) dX7_setDetection_19

set_option maxHeartbeats 4000000 in
set_option maxRecDepth 100000 in
theorem c_X7_setGap (l : Launch) (G : gG) {M : HM} {b : Nat → Nat} {F : Nat → Nat → Int32} {nx cn ln : Nat} {sv sl fl T iF iN : Nat → Int32} {at_ it : Int32} (hR0 : IsRf G M b (F 0) sv sl fl T iF iN (nI cn) (nI ln) at_ it) (hsv : SVr F nx cn sv) (hsl : SLr F fl sl) (hnx : nx < 8) (hcn : cn ≤ 8) (hln : ln ≤ 120) (x : Int32) : Ci l yX7_setGap cX7_setGap 2 .int (rd 2 0 0) G [.ref (b 0), .int x] M (fun r M' => r = (s_setS 3 1 200 x (F, nx, cn, fl, T, ln)).1 ∧ RZ G M M' b (s_setS 3 1 200 x (F, nx, cn, fl, T, ln)).2) := by
  refine Ci.of (by decide) (Nat.le_of_ble_eq_true rfl) ?_
  intro p e s m args below meth c ls cX hw hlocks hr hl
  have hx := cX.1
  have hb := cX.2.1
  have hl : lv_has ls 2 [(0, .ref (b 0)), (1, .int x)] := hl
  have hR := hR0.rf
  refine lv_iload_n hx hb dX7_setGap_0 rfl (lv_at hl 1 rfl) ?_
  refine lv_iconst (v := 1) hx hb dX7_setGap_1 (by decide) ?_
  refine lv_sipush (v := 200) hx hb dX7_setGap_2 (by decide) ?_
  refine r_Si cX hw [.int x, .int 1, .int 200] (c_X7_in l G x 1 200) wM_X7_36 mw_X7_in ⟨Nat.le_of_ble_eq_true rfl, Nat.le_of_ble_eq_true rfl⟩ rfl rfl hl.1 (Nat.le_of_ble_eq_true rfl) dX7_setGap_5 ⟨Nat.le_of_ble_eq_true rfl, Nat.le_of_ble_eq_true rfl⟩ (fun r M1 H locs hp hw => ?_)
  obtain ⟨hr1, hq⟩ := hp
  subst hr1
  rw [hq] at hw
  refine lv_if_eq (tgt := 20) hx hb dX7_setGap_8 (by decide) (fun c8 => ?_) (fun c8 => ?_)
  · refine lv_iconst (v := (-1)) hx hb dX7_setGap_20 (by decide) ?_
    exact r_iret cX hr hlocks hw (by unfold s_setS; (try dsimp only); rw [if_neg (if01e c8)]; exact ⟨rfl, RZ.same hR0 hsv hsl hnx hcn hln⟩) dX7_setGap_21
  · refine lv_aload_n hx hb dX7_setGap_11 rfl (lv_at hl 0 rfl) ?_
    refine lv_iconst (v := 3) hx hb dX7_setGap_12 (by decide) ?_
    refine lv_iload_n hx hb dX7_setGap_13 rfl (lv_at hl 1 rfl) ?_
    refine r_Vi cX hw hR.1.1 rfl [.int 3, .int x] (c_X7_change l G hR.1 hcn 3 x 3 rfl (by decide)) wM_X7_55 mw_X7_change ⟨Nat.le_of_ble_eq_true rfl, Nat.le_of_ble_eq_true rfl⟩ rfl rfl hl.1 (Nat.le_of_ble_eq_true rfl) dX7_setGap_14 ⟨Nat.le_of_ble_eq_true rfl, Nat.le_of_ble_eq_true rfl⟩ (fun r M1 H locs hp hw => ?_)
    obtain ⟨hr1, sv', hp, hkp⟩ := hp
    subst hr1
    have hR := hR.trans hp
    refine lv_goto (tgt := 21) hx hb dX7_setGap_17 (by decide) ?_
    exact r_iret cX hr hlocks hw (by unfold s_setS; (try dsimp only); rw [if_pos (if01n c8)]; exact ⟨rfl, RZ.psh hR hsv hsl hnx hcn hln hkp⟩) dX7_setGap_21

set_option maxHeartbeats 4000000 in
set_option maxRecDepth 100000 in
theorem c_X7_setShift (l : Launch) (G : gG) {M : HM} {b : Nat → Nat} {F : Nat → Nat → Int32} {nx cn ln : Nat} {sv sl fl T iF iN : Nat → Int32} {at_ it : Int32} (hR0 : IsRf G M b (F 0) sv sl fl T iF iN (nI cn) (nI ln) at_ it) (hsv : SVr F nx cn sv) (hsl : SLr F fl sl) (hnx : nx < 8) (hcn : cn ≤ 8) (hln : ln ≤ 120) (x : Int32) : Ci l yX7_setShift cX7_setShift 2 .int (rd 2 0 0) G [.ref (b 0), .int x] M (fun r M' => r = (s_setS 6 1 4 x (F, nx, cn, fl, T, ln)).1 ∧ RZ G M M' b (s_setS 6 1 4 x (F, nx, cn, fl, T, ln)).2) := by
  refine Ci.of (by decide) (Nat.le_of_ble_eq_true rfl) ?_
  intro p e s m args below meth c ls cX hw hlocks hr hl
  have hx := cX.1
  have hb := cX.2.1
  have hl : lv_has ls 2 [(0, .ref (b 0)), (1, .int x)] := hl
  have hR := hR0.rf
  refine lv_iload_n hx hb dX7_setShift_0 rfl (lv_at hl 1 rfl) ?_
  refine lv_iconst (v := 1) hx hb dX7_setShift_1 (by decide) ?_
  refine lv_iconst (v := 4) hx hb dX7_setShift_2 (by decide) ?_
  refine r_Si cX hw [.int x, .int 1, .int 4] (c_X7_in l G x 1 4) wM_X7_36 mw_X7_in ⟨Nat.le_of_ble_eq_true rfl, Nat.le_of_ble_eq_true rfl⟩ rfl rfl hl.1 (Nat.le_of_ble_eq_true rfl) dX7_setShift_3 ⟨Nat.le_of_ble_eq_true rfl, Nat.le_of_ble_eq_true rfl⟩ (fun r M1 H locs hp hw => ?_)
  obtain ⟨hr1, hq⟩ := hp
  subst hr1
  rw [hq] at hw
  refine lv_if_eq (tgt := 19) hx hb dX7_setShift_6 (by decide) (fun c6 => ?_) (fun c6 => ?_)
  · refine lv_iconst (v := (-1)) hx hb dX7_setShift_19 (by decide) ?_
    exact r_iret cX hr hlocks hw (by unfold s_setS; (try dsimp only); rw [if_neg (if01e c6)]; exact ⟨rfl, RZ.same hR0 hsv hsl hnx hcn hln⟩) dX7_setShift_20
  · refine lv_aload_n hx hb dX7_setShift_9 rfl (lv_at hl 0 rfl) ?_
    refine lv_bipush (v := 6) hx hb dX7_setShift_10 (by decide) ?_
    refine lv_iload_n hx hb dX7_setShift_12 rfl (lv_at hl 1 rfl) ?_
    refine r_Vi cX hw hR.1.1 rfl [.int 6, .int x] (c_X7_change l G hR.1 hcn 6 x 6 rfl (by decide)) wM_X7_55 mw_X7_change ⟨Nat.le_of_ble_eq_true rfl, Nat.le_of_ble_eq_true rfl⟩ rfl rfl hl.1 (Nat.le_of_ble_eq_true rfl) dX7_setShift_13 ⟨Nat.le_of_ble_eq_true rfl, Nat.le_of_ble_eq_true rfl⟩ (fun r M1 H locs hp hw => ?_)
    obtain ⟨hr1, sv', hp, hkp⟩ := hp
    subst hr1
    have hR := hR.trans hp
    refine lv_goto (tgt := 20) hx hb dX7_setShift_16 (by decide) ?_
    exact r_iret cX hr hlocks hw (by unfold s_setS; (try dsimp only); rw [if_pos (if01n c6)]; exact ⟨rfl, RZ.psh hR hsv hsl hnx hcn hln hkp⟩) dX7_setShift_20

set_option maxHeartbeats 4000000 in
set_option maxRecDepth 100000 in
theorem c_X7_setGenerator (l : Launch) (G : gG) {M : HM} {b : Nat → Nat} {F : Nat → Nat → Int32} {nx cn ln : Nat} {sv sl fl T iF iN : Nat → Int32} {at_ it : Int32} (hR0 : IsRf G M b (F 0) sv sl fl T iF iN (nI cn) (nI ln) at_ it) (hsv : SVr F nx cn sv) (hsl : SLr F fl sl) (hnx : nx < 8) (hcn : cn ≤ 8) (hln : ln ≤ 120) (x : Int32) : Ci l yX7_setGenerator cX7_setGenerator 2 .int (rd 2 0 0) G [.ref (b 0), .int x] M (fun r M' => r = (s_setGenerator x (F, nx, cn, fl, T, ln)).1 ∧ RZ G M M' b (s_setGenerator x (F, nx, cn, fl, T, ln)).2) := by
  refine Ci.of (by decide) (Nat.le_of_ble_eq_true rfl) ?_
  intro p e s m args below meth c ls cX hw hlocks hr hl
  have hx := cX.1
  have hb := cX.2.1
  have hl : lv_has ls 2 [(0, .ref (b 0)), (1, .int x)] := hl
  have hR := hR0.rf
  refine lv_iload_n hx hb dX7_setGenerator_0 rfl (lv_at hl 1 rfl) ?_
  refine lv_if_lt (tgt := 14) hx hb dX7_setGenerator_1 (by decide) (fun c1 => ?_) (fun c1 => ?_)
  · refine lv_iconst (v := (-1)) hx hb dX7_setGenerator_14 (by decide) ?_
    exact r_iret cX hr hlocks hw (by unfold s_setGenerator; (try dsimp only); rw [if_neg (Int32.not_le.mpr c1)]; exact ⟨rfl, RZ.same hR0 hsv hsl hnx hcn hln⟩) dX7_setGenerator_15
  · refine lv_aload_n hx hb dX7_setGenerator_4 rfl (lv_at hl 0 rfl) ?_
    refine lv_bipush (v := 7) hx hb dX7_setGenerator_5 (by decide) ?_
    refine lv_iload_n hx hb dX7_setGenerator_7 rfl (lv_at hl 1 rfl) ?_
    refine r_Vi cX hw hR.1.1 rfl [.int 7, .int x] (c_X7_change l G hR.1 hcn 7 x 7 rfl (by decide)) wM_X7_55 mw_X7_change ⟨Nat.le_of_ble_eq_true rfl, Nat.le_of_ble_eq_true rfl⟩ rfl rfl hl.1 (Nat.le_of_ble_eq_true rfl) dX7_setGenerator_8 ⟨Nat.le_of_ble_eq_true rfl, Nat.le_of_ble_eq_true rfl⟩ (fun r M1 H locs hp hw => ?_)
    obtain ⟨hr1, sv', hp, hkp⟩ := hp
    subst hr1
    have hR := hR.trans hp
    refine lv_goto (tgt := 15) hx hb dX7_setGenerator_11 (by decide) ?_
    exact r_iret cX hr hlocks hw (by unfold s_setGenerator; (try dsimp only); rw [if_pos (Int32.not_lt.mp c1)]; exact ⟨rfl, RZ.psh hR hsv hsl hnx hcn hln hkp⟩) dX7_setGenerator_15

set_option maxHeartbeats 4000000 in
set_option maxRecDepth 100000 in
theorem c_X7_configure (l : Launch) (G : gG) {M : HM} {b : Nat → Nat} {F : Nat → Nat → Int32} {nx cn ln : Nat} {sv sl fl T iF iN : Nat → Int32} {at_ it : Int32} (hR0 : IsRf G M b (F 0) sv sl fl T iF iN (nI cn) (nI ln) at_ it) (hsv : SVr F nx cn sv) (hsl : SLr F fl sl) (hnx : nx < 8) (hcn : cn ≤ 8) (hln : ln ≤ 120) (x y : Int32) : Ci l yX7_configure cX7_configure 5 .int (rd 1 0 0) G [.ref (b 0), .int x, .int y] M (fun r M' => r = (s_configure x y (F, nx, cn, fl, T, ln)).1 ∧ RZ G M M' b (s_configure x y (F, nx, cn, fl, T, ln)).2) := by
  refine Ci.of (by decide) (Nat.le_of_ble_eq_true rfl) ?_
  intro p e s m args below meth c ls cX hw hlocks hr hl
  have hx := cX.1
  have hb := cX.2.1
  have hl : lv_has ls 5 [(0, .ref (b 0)), (1, .int x), (2, .int y)] := hl
  have hR := hR0.rf
  refine lv_iload_n hx hb dX7_configure_0 rfl (lv_at hl 1 rfl) ?_
  refine lv_iconst (v := 2) hx hb dX7_configure_1 (by decide) ?_
  refine lv_iconst (v := 4) hx hb dX7_configure_2 (by decide) ?_
  refine r_Si cX hw [.int x, .int 2, .int 4] (c_X7_in l G x 2 4) wM_X7_36 mw_X7_in ⟨Nat.le_of_ble_eq_true rfl, Nat.le_of_ble_eq_true rfl⟩ rfl rfl hl.1 (Nat.le_of_ble_eq_true rfl) dX7_configure_3 ⟨Nat.le_of_ble_eq_true rfl, Nat.le_of_ble_eq_true rfl⟩ (fun r M1 H locs hp hw => ?_)
  obtain ⟨hr1, hq⟩ := hp
  subst hr1
  rw [hq] at hw
  refine lv_if_eq (tgt := 19) hx hb dX7_configure_6 (by decide) (fun c6 => ?_) (fun c6 => ?_)
  · refine lv_iconst (v := (-1)) hx hb dX7_configure_19 (by decide) ?_
    exact r_iret cX hr hlocks hw (by unfold s_configure; (try dsimp only); rw [if_neg (fun h => if01e c6 h.1)]; exact ⟨rfl, RZ.same hR0 hsv hsl hnx hcn hln⟩) dX7_configure_20
  · refine lv_iload_n hx hb dX7_configure_9 rfl (lv_at hl 2 rfl) ?_
    refine lv_iconst (v := 1) hx hb dX7_configure_10 (by decide) ?_
    refine lv_bipush (v := 8) hx hb dX7_configure_11 (by decide) ?_
    refine r_Si cX hw [.int y, .int 1, .int 8] (c_X7_in l G y 1 8) wM_X7_36 mw_X7_in ⟨Nat.le_of_ble_eq_true rfl, Nat.le_of_ble_eq_true rfl⟩ rfl rfl hl.1 (Nat.le_of_ble_eq_true rfl) dX7_configure_13 ⟨Nat.le_of_ble_eq_true rfl, Nat.le_of_ble_eq_true rfl⟩ (fun r M1 H locs hp hw => ?_)
    obtain ⟨hr1, hq⟩ := hp
    subst hr1
    rw [hq] at hw
    refine lv_if_ne (tgt := 21) hx hb dX7_configure_16 (by decide) (fun c16 => ?_) (fun c16 => ?_)
    · refine lv_aload_n hx hb dX7_configure_21 rfl (lv_at hl 0 rfl) ?_
      refine r_Vv cX hw hR.1.1 rfl [] (c_X7_keep l G hR.1 hcn) wM_X7_44 mw_X7_keep ⟨Nat.le_of_ble_eq_true rfl, Nat.le_of_ble_eq_true rfl⟩ rfl rfl hl.1 (Nat.le_of_ble_eq_true rfl) dX7_configure_22 ⟨Nat.le_of_ble_eq_true rfl, Nat.le_of_ble_eq_true rfl⟩ (fun M1 H locs hp hw => ?_)
      obtain ⟨sv', hp, hkp⟩ := hp
      have hR := hR.trans hp
      refine lv_aload_n hx hb dX7_configure_25 rfl (lv_at hl 0 rfl) ?_
      refine lv_iload_n hx hb dX7_configure_26 rfl (lv_at hl 1 rfl) ?_
      refine lv_iload_n hx hb dX7_configure_27 rfl (lv_at hl 2 rfl) ?_
      refine r_Vv cX hw hR.1.1 rfl [.int x, .int y] (c_X7_makeNew l G hR.1 x y) wM_X7_32 mw_X7_makeNew ⟨Nat.le_of_ble_eq_true rfl, Nat.le_of_ble_eq_true rfl⟩ rfl rfl hl.1 (Nat.le_of_ble_eq_true rfl) dX7_configure_28 ⟨Nat.le_of_ble_eq_true rfl, Nat.le_of_ble_eq_true rfl⟩ (fun M1 H locs hp hw => ?_)
      have hR := hR.trans hp
      refine lv_iconst (v := 0) hx hb dX7_configure_31 (by decide) ?_
      refine lv_istore_n (lv' := [(3, .int 0), (0, .ref (b 0)), (1, .int x), (2, .int y)]) hx hb dX7_configure_32 rfl hl (by decide) rfl (fun ls hl => ?_)
      refine lv_iconst (v := 0) hx hb dX7_configure_33 (by decide) ?_
      refine lv_istore (lv' := [(4, .int 0), (3, .int 0), (0, .ref (b 0)), (1, .int x), (2, .int y)]) hx hb dX7_configure_34 hl (by decide) rfl (fun ls hl => ?_)
      have hy0 : ¬ iniF x y 2 = 0 := by show ¬ y = 0; intro q; exact absurd (if01n c16).1 (by rw [q]; decide)
      have lp36 : ∀ (nn i : Nat), i ≤ 16 → 16 < i + nn → ∀ (x3 : Int32) (M1 : HM) (H : Heap) (locs : List Loc) (ls : Array Slot), Wd G (dm M s.heap.size) s.heap M1 H locs → Rf G M M1 b (iniF x y) sv' sl fl T iF iN (nI (min (cn + 1) 8)) (nI ln) at_ it → x3 = cnF (iniF x y) 0 i → lv_has ls 5 [(4, .int (nI i)), (3, .int x3), (2, .int y), (1, .int x), (0, .ref (b 0))] → W p l e (rd 1 0 0) s m args below meth c H locs 0 0 (MQ below (QI G M s.heap.size (fun r M' => r = (s_configure x y (F, nx, cn, fl, T, ln)).1 ∧ RZ G M M' b (s_configure x y (F, nx, cn, fl, T, ln)).2)) args s 0 0 (dm M s.heap.size)) (F0 m 36 ls []) := by
        intro nn
        induction nn with
        | zero =>
          intro i h1 h2
          exact absurd h2 (by omega)
        | succ nn ih =>
          intro i hi hin x3 M1 H locs ls hw hR hx3 hl
          refine lv_iload hx hb dX7_configure_36 (lv_at hl 0 rfl) ?_
          refine lv_bipush (v := 16) hx hb dX7_configure_38 (by decide) ?_
          refine lv_icmp_ge (tgt := 66) hx hb dX7_configure_40 (by decide) (fun c40 => ?_) (fun c40 => ?_)
          · obtain rfl : i = 16 := Nat.le_antisymm hi (ix_ge (b := 16) (by omega) (by decide) c40)
            refine lv_iload_n hx hb dX7_configure_66 rfl (lv_at hl 1 rfl) ?_
            exact r_iret cX hr hlocks hw (by unfold s_configure; (try dsimp only); rw [if_pos ⟨if01n c6, if01n c16⟩]; exact ⟨hx3, RZ.psh hR hsv hsl hnx hcn hln hkp⟩) dX7_configure_67
          · have hlt : i < 16 := ix_lt (b := 16) (by omega) c40
            refine lv_iload_n hx hb dX7_configure_43 rfl (lv_at hl 1 rfl) ?_
            refine lv_aload_n hx hb dX7_configure_44 rfl (lv_at hl 4 rfl) ?_
            refine lv_iload hx hb dX7_configure_45 (lv_at hl 0 rfl) ?_
            refine r_Vi cX hw hR.1.1 rfl [.int (nI i)] (c_X7_slotOf l G hR.1 (nI i) hy0) wM_X7_47 mw_X7_slotOf ⟨Nat.le_of_ble_eq_true rfl, Nat.le_of_ble_eq_true rfl⟩ rfl rfl hl.1 (Nat.le_of_ble_eq_true rfl) dX7_configure_47 ⟨Nat.le_of_ble_eq_true rfl, Nat.le_of_ble_eq_true rfl⟩ (fun r M1 H locs hp hw => ?_)
            obtain ⟨hr1, hq⟩ := hp
            subst hr1
            rw [hq] at hw
            refine lv_if_ne (tgt := 57) hx hb dX7_configure_50 (by decide) (fun c50 => ?_) (fun c50 => ?_)
            · refine lv_iconst (v := 0) hx hb dX7_configure_57 (by decide) ?_
              refine lv_iadd hx hb dX7_configure_58 ?_
              refine lv_istore_n (lv' := [(3, .int (x3 + 0)), (4, .int (nI i)), (2, .int y), (1, .int x), (0, .ref (b 0))]) hx hb dX7_configure_59 rfl hl (by decide) rfl (fun ls hl => ?_)
              refine lv_iinc (v := (nI (i + 1))) (lv' := [(4, .int (nI (i + 1))), (3, .int (x3 + 0)), (2, .int y), (1, .int x), (0, .ref (b 0))]) hx hb dX7_configure_60 hl (k := 1) rfl (nI_1 i) (by decide) rfl (fun ls hl => ?_)
              refine lv_goto (tgt := 36) hx hb dX7_configure_63 (by decide) ?_
              exact ih (i + 1) (by omega) (by omega) (x3 + 0) _ _ _ _ hw hR (by rw [hx3]; show _ = (if _ then _ else _); rw [if_neg c50]; exact Int32.add_zero _) (lv_sub hl [0, 1, 2, 3, 4] rfl)
            · refine lv_iconst (v := 1) hx hb dX7_configure_53 (by decide) ?_
              refine lv_goto (tgt := 58) hx hb dX7_configure_54 (by decide) ?_
              refine lv_iadd hx hb dX7_configure_58 ?_
              refine lv_istore_n (lv' := [(3, .int (x3 + 1)), (4, .int (nI i)), (2, .int y), (1, .int x), (0, .ref (b 0))]) hx hb dX7_configure_59 rfl hl (by decide) rfl (fun ls hl => ?_)
              refine lv_iinc (v := (nI (i + 1))) (lv' := [(4, .int (nI (i + 1))), (3, .int (x3 + 1)), (2, .int y), (1, .int x), (0, .ref (b 0))]) hx hb dX7_configure_60 hl (k := 1) rfl (nI_1 i) (by decide) rfl (fun ls hl => ?_)
              refine lv_goto (tgt := 36) hx hb dX7_configure_63 (by decide) ?_
              exact ih (i + 1) (by omega) (by omega) (x3 + 1) _ _ _ _ hw hR (by rw [hx3]; show _ = (if _ then _ else _); rw [if_pos c50]) (lv_sub hl [0, 1, 2, 3, 4] rfl)
      exact lp36 (16 + 1) 0 (by omega) (by omega) 0 _ _ _ _ hw hR rfl (lv_sub hl [0, 1, 4, 3, 2] rfl)
    · refine lv_iconst (v := (-1)) hx hb dX7_configure_19 (by decide) ?_
      exact r_iret cX hr hlocks hw (by unfold s_configure; (try dsimp only); rw [if_neg (fun h => if01e c16 h.2)]; exact ⟨rfl, RZ.same hR0 hsv hsl hnx hcn hln⟩) dX7_configure_20

set_option maxHeartbeats 4000000 in
set_option maxRecDepth 100000 in
theorem c_X7_advance (l : Launch) (G : gG) {M : HM} {b : Nat → Nat} {F : Nat → Nat → Int32} {nx cn ln : Nat} {sv sl fl T iF iN : Nat → Int32} {at_ it : Int32} (hR0 : IsRf G M b (F 0) sv sl fl T iF iN (nI cn) (nI ln) at_ it) (hsv : SVr F nx cn sv) (hsl : SLr F fl sl) (hnx : nx < 8) (hcn : cn ≤ 8) (hln : ln ≤ 120) {B : Nat} (hv : Inv B (F 0)) (x : Int32) : Ci l yX7_advance cX7_advance 3 .int (rd 3 0 0) G [.ref (b 0), .int x] M (fun r M' => r = (s_advance x (F, nx, cn, fl, T, ln)).1 ∧ RZ G M M' b (s_advance x (F, nx, cn, fl, T, ln)).2) := by
  refine Ci.of (by decide) (Nat.le_of_ble_eq_true rfl) ?_
  intro p e s m args below meth c ls cX hw hlocks hr hl
  have hx := cX.1
  have hb := cX.2.1
  have hl : lv_has ls 3 [(0, .ref (b 0)), (1, .int x)] := hl
  have hR := hR0.rf
  refine lv_aload_n hx hb dX7_advance_0 rfl (lv_at hl 0 rfl) ?_
  refine lv_iload_n hx hb dX7_advance_1 rfl (lv_at hl 1 rfl) ?_
  refine r_Vi cX hw hR.1.1 rfl [.int x] (c_X7_whyNotPass l G hR.1 hv x) wM_X7_66 mw_X7_whyNotPass ⟨Nat.le_of_ble_eq_true rfl, Nat.le_of_ble_eq_true rfl⟩ rfl rfl hl.1 (Nat.le_of_ble_eq_true rfl) dX7_advance_2 ⟨Nat.le_of_ble_eq_true rfl, Nat.le_of_ble_eq_true rfl⟩ (fun r M1 H locs hp hw => ?_)
  obtain ⟨hr1, hq⟩ := hp
  rw [hq] at hw
  clear hq
  refine lv_istore_n (lv' := [(2, .int r), (0, .ref (b 0)), (1, .int x)]) hx hb dX7_advance_5 rfl hl (by decide) rfl (fun ls hl => ?_)
  refine lv_iload_n hx hb dX7_advance_6 rfl (lv_at hl 0 rfl) ?_
  refine lv_if_eq (tgt := 12) hx hb dX7_advance_7 (by decide) (fun c7 => ?_) (fun c7 => ?_)
  · refine lv_aload_n hx hb dX7_advance_12 rfl (lv_at hl 1 rfl) ?_
    refine r_Vv cX hw hR.1.1 rfl [] (c_X7_keep l G hR.1 hcn) wM_X7_44 mw_X7_keep ⟨Nat.le_of_ble_eq_true rfl, Nat.le_of_ble_eq_true rfl⟩ rfl rfl hl.1 (Nat.le_of_ble_eq_true rfl) dX7_advance_13 ⟨Nat.le_of_ble_eq_true rfl, Nat.le_of_ble_eq_true rfl⟩ (fun M1 H locs hp hw => ?_)
    obtain ⟨sv', hp, hkp⟩ := hp
    have hR := hR.trans hp
    refine lv_aload_n hx hb dX7_advance_16 rfl (lv_at hl 1 rfl) ?_
    refine lv_iload_n hx hb dX7_advance_17 rfl (lv_at hl 2 rfl) ?_
    obtain ⟨h81, h82⟩ := wn0 (hr1.symm.trans c7)
    obtain ⟨T0, hT0, hT1⟩ := hv.1
    obtain ⟨k, hk1, rfl, hxc, hTk⟩ := adv_ix hT0 hT1 h81 h82
    refine r_Vi cX hw hR.1.1 rfl [.int (nI k)] (c_X7_pass l G hR.1 hv hT1 hTk) wM_X7_69 mw_X7_pass ⟨Nat.le_of_ble_eq_true rfl, Nat.le_of_ble_eq_true rfl⟩ rfl rfl hl.1 (Nat.le_of_ble_eq_true rfl) dX7_advance_18 ⟨Nat.le_of_ble_eq_true rfl, Nat.le_of_ble_eq_true rfl⟩ (fun r M1 H locs hp hw => ?_)
    obtain ⟨rfl, hp⟩ := hp
    have hR := hR.trans hp
    exact r_iret cX hr hlocks hw (by unfold s_advance; (try dsimp only); rw [if_pos h81, if_pos h82, hxc]; exact ⟨rfl, RZ.psh hR hsv hsl hnx hcn hln hkp⟩) dX7_advance_21
  · refine lv_iload_n hx hb dX7_advance_10 rfl (lv_at hl 0 rfl) ?_
    exact r_iret cX hr hlocks hw (by rw [s_adv_e (F := F) (nx := nx) (ct := cn) (fl := fl) (T := T) (len := ln) hr1 c7]; exact ⟨rfl, RZ.same hR0 hsv hsl hnx hcn hln⟩) dX7_advance_11

set_option maxHeartbeats 4000000 in
set_option maxRecDepth 100000 in
theorem c_X7_send (l : Launch) (G : gG) {M : HM} {b : Nat → Nat} {F : Nat → Nat → Int32} {nx cn ln : Nat} {sv sl fl T iF iN : Nat → Int32} {at_ it : Int32} (hR0 : IsRf G M b (F 0) sv sl fl T iF iN (nI cn) (nI ln) at_ it) (hsv : SVr F nx cn sv) (hsl : SLr F fl sl) (hnx : nx < 8) (hcn : cn ≤ 8) (hln : ln ≤ 120) {B : Nat} (hv : Inv B (F 0)) (hB : B < 2 ^ 30) (x y : Int32) : Ci l yX7_send cX7_send 3 .int (rd 4 0 0) G [.ref (b 0), .int x, .int y] M (fun r M' => r = (s_send x y (F, nx, cn, fl, T, ln)).1 ∧ RZ G M M' b (s_send x y (F, nx, cn, fl, T, ln)).2) := by
  refine Ci.of (by decide) (Nat.le_of_ble_eq_true rfl) ?_
  intro p e s m args below meth c ls cX hw hlocks hr hl
  have hx := cX.1
  have hb := cX.2.1
  have hl : lv_has ls 3 [(0, .ref (b 0)), (1, .int x), (2, .int y)] := hl
  have hR := hR0.rf
  refine lv_iload_n hx hb dX7_send_0 rfl (lv_at hl 1 rfl) ?_
  refine r_Si cX hw [.int x] (c_X7_isFlow l G x) wM_X7_108 mw_X7_isFlow ⟨Nat.le_of_ble_eq_true rfl, Nat.le_of_ble_eq_true rfl⟩ rfl rfl hl.1 (Nat.le_of_ble_eq_true rfl) dX7_send_1 ⟨Nat.le_of_ble_eq_true rfl, Nat.le_of_ble_eq_true rfl⟩ (fun r M1 H locs hp hw => ?_)
  obtain ⟨hr1, hq⟩ := hp
  subst hr1
  rw [hq] at hw
  refine lv_if_eq (tgt := 14) hx hb dX7_send_4 (by decide) (fun c4 => ?_) (fun c4 => ?_)
  · refine lv_iconst (v := (-1)) hx hb dX7_send_14 (by decide) ?_
    exact r_iret cX hr hlocks hw (by unfold s_send; (try dsimp only); rw [if_neg (fun h => if01e c4 h.1)]; exact ⟨rfl, RZ.same hR0 hsv hsl hnx hcn hln⟩) dX7_send_15
  · refine lv_iload_n hx hb dX7_send_7 rfl (lv_at hl 2 rfl) ?_
    refine r_Si cX hw [.int y] (c_X7_isSize l G y) wM_X7_111 mw_X7_isSize ⟨Nat.le_of_ble_eq_true rfl, Nat.le_of_ble_eq_true rfl⟩ rfl rfl hl.1 (Nat.le_of_ble_eq_true rfl) dX7_send_8 ⟨Nat.le_of_ble_eq_true rfl, Nat.le_of_ble_eq_true rfl⟩ (fun r M1 H locs hp hw => ?_)
    obtain ⟨hr1, hq⟩ := hp
    subst hr1
    rw [hq] at hw
    refine lv_if_ne (tgt := 16) hx hb dX7_send_11 (by decide) (fun c11 => ?_) (fun c11 => ?_)
    · refine lv_aload_n hx hb dX7_send_16 rfl (lv_at hl 0 rfl) ?_
      refine r_Vv cX hw hR.1.1 rfl [] (c_X7_keep l G hR.1 hcn) wM_X7_44 mw_X7_keep ⟨Nat.le_of_ble_eq_true rfl, Nat.le_of_ble_eq_true rfl⟩ rfl rfl hl.1 (Nat.le_of_ble_eq_true rfl) dX7_send_17 ⟨Nat.le_of_ble_eq_true rfl, Nat.le_of_ble_eq_true rfl⟩ (fun M1 H locs hp hw => ?_)
      obtain ⟨sv', hp, hkp⟩ := hp
      have hR := hR.trans hp
      refine lv_aload_n hx hb dX7_send_20 rfl (lv_at hl 0 rfl) ?_
      refine lv_iload_n hx hb dX7_send_21 rfl (lv_at hl 1 rfl) ?_
      refine lv_iload_n hx hb dX7_send_22 rfl (lv_at hl 2 rfl) ?_
      obtain ⟨k, hk, rfl, hxc⟩ := lit_ix 15 (by decide) (if01n c4)
      refine r_Vi cX hw hR.1.1 rfl [.int (nI k), .int y] (c_X7_transmit l G hR.1 hv hB k hk y) wM_X7_114 mw_X7_transmit ⟨Nat.le_of_ble_eq_true rfl, Nat.le_of_ble_eq_true rfl⟩ rfl rfl hl.1 (Nat.le_of_ble_eq_true rfl) dX7_send_23 ⟨Nat.le_of_ble_eq_true rfl, Nat.le_of_ble_eq_true rfl⟩ (fun r M1 H locs hp hw => ?_)
      obtain ⟨rfl, hp⟩ := hp
      have hR := hR.trans hp
      exact r_iret cX hr hlocks hw (by unfold s_send; (try dsimp only); rw [if_pos ⟨if01n c4, if01n c11⟩, hxc]; exact ⟨rfl, RZ.psh hR hsv hsl hnx hcn hln hkp⟩) dX7_send_26
    · refine lv_iconst (v := (-1)) hx hb dX7_send_14 (by decide) ?_
      exact r_iret cX hr hlocks hw (by unfold s_send; (try dsimp only); rw [if_neg (fun h => if01e c11 h.2)]; exact ⟨rfl, RZ.same hR0 hsv hsl hnx hcn hln⟩) dX7_send_15

set_option maxHeartbeats 4000000 in
set_option maxRecDepth 100000 in
theorem c_X7_appendCharacter (l : Launch) (G : gG) {M : HM} {b : Nat → Nat} {F : Nat → Nat → Int32} {nx cn ln : Nat} {sv sl fl T iF iN : Nat → Int32} {at_ it : Int32} (hR0 : IsRf G M b (F 0) sv sl fl T iF iN (nI cn) (nI ln) at_ it) (hsv : SVr F nx cn sv) (hsl : SLr F fl sl) (hnx : nx < 8) (hcn : cn ≤ 8) (hln : ln ≤ 120) (x : Int32) : Ci l yX7_appendCharacter cX7_appendCharacter 2 .int (rd 1 0 0) G [.ref (b 0), .int x] M (fun r M' => r = (s_append x (F, nx, cn, fl, T, ln)).1 ∧ RZ G M M' b (s_append x (F, nx, cn, fl, T, ln)).2) := by
  refine Ci.of (by decide) (Nat.le_of_ble_eq_true rfl) ?_
  intro p e s m args below meth c ls cX hw hlocks hr hl
  have hx := cX.1
  have hb := cX.2.1
  have hl : lv_has ls 2 [(0, .ref (b 0)), (1, .int x)] := hl
  have hR := hR0.rf
  refine lv_iload_n hx hb dX7_appendCharacter_0 rfl (lv_at hl 1 rfl) ?_
  refine lv_iconst (v := 0) hx hb dX7_appendCharacter_1 (by decide) ?_
  refine lv_sipush (v := 255) hx hb dX7_appendCharacter_2 (by decide) ?_
  refine r_Si cX hw [.int x, .int 0, .int 255] (c_X7_in l G x 0 255) wM_X7_36 mw_X7_in ⟨Nat.le_of_ble_eq_true rfl, Nat.le_of_ble_eq_true rfl⟩ rfl rfl hl.1 (Nat.le_of_ble_eq_true rfl) dX7_appendCharacter_5 ⟨Nat.le_of_ble_eq_true rfl, Nat.le_of_ble_eq_true rfl⟩ (fun r M1 H locs hp hw => ?_)
  obtain ⟨hr1, hq⟩ := hp
  subst hr1
  rw [hq] at hw
  refine lv_if_ne (tgt := 13) hx hb dX7_appendCharacter_8 (by decide) (fun c8 => ?_) (fun c8 => ?_)
  · refine lv_aload_n hx hb dX7_appendCharacter_13 rfl (lv_at hl 0 rfl) ?_
    refine r_get cX inX7 hw hR.1.1 rfl 6 (by decide) wF_X7_129 rfl dX7_appendCharacter_14 ?_
    refine lv_bipush (v := 120) hx hb dX7_appendCharacter_17 (by decide) ?_
    refine lv_icmp_ne (tgt := 25) hx hb dX7_appendCharacter_19 (by decide) (fun c19 => ?_) (fun c19 => ?_)
    · have hlt : ln < 120 := by rcases Nat.lt_or_ge ln 120 with q | q; exact q; exact absurd (show nI ln = 120 by rw [show ln = 120 by omega]; rfl) c19
      refine lv_aload_n hx hb dX7_appendCharacter_25 rfl (lv_at hl 0 rfl) ?_
      refine r_get cX inX7 hw hR.1.1 rfl 5 (by decide) wF_X7_23 rfl dX7_appendCharacter_26 ?_
      refine lv_aload_n hx hb dX7_appendCharacter_29 rfl (lv_at hl 0 rfl) ?_
      refine r_get cX inX7 hw hR.1.1 rfl 6 (by decide) wF_X7_129 rfl dX7_appendCharacter_30 ?_
      refine lv_iload_n hx hb dX7_appendCharacter_33 rfl (lv_at hl 1 rfl) ?_
      refine r_iast cX hw hR.1.2.2.2.2.2.1 ln rfl hlt (by decide) dX7_appendCharacter_34 (fun H locs hw => ?_)
      have hR := hR.a5 (x := upd T ln x)
      refine lv_aload_n hx hb dX7_appendCharacter_35 rfl (lv_at hl 0 rfl) ?_
      refine lv_dup hx hb dX7_appendCharacter_36 rfl ?_
      refine r_get cX inX7 hw hR.1.1 rfl 6 (by decide) wF_X7_129 rfl dX7_appendCharacter_37 ?_
      refine lv_iconst (v := 1) hx hb dX7_appendCharacter_40 (by decide) ?_
      refine lv_iadd hx hb dX7_appendCharacter_41 ?_
      refine r_put (fs' := rfO b (nI cn) ((nI ln) + 1) at_ it) cX inX7 tyX7 tyX7_ok nmX7 hw hR.1.1 rfl 6 (by decide) wF_X7_129 rfl rfl rfl rfl (Nat.le_of_ble_eq_true rfl) dX7_appendCharacter_42 (fun H locs hw => ?_)
      have hR := hR.ob (ct' := nI cn) (len' := (nI ln) + 1) (at_' := at_) (it' := it)
      rw [nI_1] at hw hR
      refine lv_aload_n hx hb dX7_appendCharacter_45 rfl (lv_at hl 0 rfl) ?_
      refine r_get cX inX7 hw hR.1.1 rfl 6 (by decide) wF_X7_129 rfl dX7_appendCharacter_46 ?_
      exact r_iret cX hr hlocks hw (by unfold s_append; (try dsimp only); rw [if_pos (if01n c8), if_neg (by omega)]; exact ⟨rfl, sv, sl, iF, iN, at_, it, hR, hsv, hsl, hnx, hcn, hlt⟩) dX7_appendCharacter_49
    · refine lv_bipush (v := (-3)) hx hb dX7_appendCharacter_22 (by decide) ?_
      exact r_iret cX hr hlocks hw (by have h9 : ln = 120 := (nI_eq (by omega) (by decide)).mp c19; unfold s_append; (try dsimp only); rw [if_pos (if01n c8), if_pos h9]; exact ⟨rfl, RZ.same hR0 hsv hsl hnx hcn hln⟩) dX7_appendCharacter_24
  · refine lv_iconst (v := (-1)) hx hb dX7_appendCharacter_11 (by decide) ?_
    exact r_iret cX hr hlocks hw (by unfold s_append; (try dsimp only); rw [if_neg (if01e c8)]; exact ⟨rfl, RZ.same hR0 hsv hsl hnx hcn hln⟩) dX7_appendCharacter_12

set_option maxHeartbeats 4000000 in
set_option maxRecDepth 100000 in
theorem c_X7_clearText (l : Launch) (G : gG) {M : HM} {b : Nat → Nat} {F : Nat → Nat → Int32} {nx cn ln : Nat} {sv sl fl T iF iN : Nat → Int32} {at_ it : Int32} (hR0 : IsRf G M b (F 0) sv sl fl T iF iN (nI cn) (nI ln) at_ it) (hsv : SVr F nx cn sv) (hsl : SLr F fl sl) (hnx : nx < 8) (hcn : cn ≤ 8) (hln : ln ≤ 120) : Ci l yX7_clearText cX7_clearText 2 .int (rd 1 0 0) G [.ref (b 0)] M (fun r M' => r = (s_clearText (F, nx, cn, fl, T, ln)).1 ∧ RZ G M M' b (s_clearText (F, nx, cn, fl, T, ln)).2) := by
  refine Ci.of (by decide) (Nat.le_of_ble_eq_true rfl) ?_
  intro p e s m args below meth c ls cX hw hlocks hr hl
  have hx := cX.1
  have hb := cX.2.1
  have hl : lv_has ls 2 [(0, .ref (b 0))] := hl
  have hR := hR0.rf
  refine lv_aload_n hx hb dX7_clearText_0 rfl (lv_at hl 0 rfl) ?_
  refine r_get cX inX7 hw hR.1.1 rfl 6 (by decide) wF_X7_129 rfl dX7_clearText_1 ?_
  refine lv_istore_n (lv' := [(1, .int (nI ln)), (0, .ref (b 0))]) hx hb dX7_clearText_4 rfl hl (by decide) rfl (fun ls hl => ?_)
  refine lv_aload_n hx hb dX7_clearText_5 rfl (lv_at hl 1 rfl) ?_
  refine lv_iconst (v := 0) hx hb dX7_clearText_6 (by decide) ?_
  refine r_put (fs' := rfO b (nI cn) 0 at_ it) cX inX7 tyX7 tyX7_ok nmX7 hw hR.1.1 rfl 6 (by decide) wF_X7_129 rfl rfl rfl rfl (Nat.le_of_ble_eq_true rfl) dX7_clearText_7 (fun H locs hw => ?_)
  have hR := hR.ob (ct' := nI cn) (len' := 0) (at_' := at_) (it' := it)
  refine lv_iload_n hx hb dX7_clearText_10 rfl (lv_at hl 0 rfl) ?_
  exact r_iret cX hr hlocks hw (by unfold s_clearText; (try dsimp only); exact ⟨rfl, sv, sl, iF, iN, at_, it, hR, hsv, hsl, hnx, hcn, Nat.zero_le _⟩) dX7_clearText_11

set_option maxHeartbeats 4000000 in
set_option maxRecDepth 100000 in
theorem c_X7_undo (l : Launch) (G : gG) {M : HM} {b : Nat → Nat} {F : Nat → Nat → Int32} {nx cn ln : Nat} {sv sl fl T iF iN : Nat → Int32} {at_ it : Int32} (hR0 : IsRf G M b (F 0) sv sl fl T iF iN (nI cn) (nI ln) at_ it) (hsv : SVr F nx cn sv) (hsl : SLr F fl sl) (hnx : nx < 8) (hcn : cn ≤ 8) (hln : ln ≤ 120) : Ci l yX7_undo cX7_undo 2 .int (rd 1 0 0) G [.ref (b 0)] M (fun r M' => r = (s_undo (F, nx, cn, fl, T, ln)).1 ∧ RZ G M M' b (s_undo (F, nx, cn, fl, T, ln)).2) := by
  refine Ci.of (by decide) (Nat.le_of_ble_eq_true rfl) ?_
  intro p e s m args below meth c ls cX hw hlocks hr hl
  have hx := cX.1
  have hb := cX.2.1
  have hl : lv_has ls 2 [(0, .ref (b 0))] := hl
  have hR := hR0.rf
  refine lv_aload_n hx hb dX7_undo_0 rfl (lv_at hl 0 rfl) ?_
  refine r_get cX inX7 hw hR.1.1 rfl 2 (by decide) wF_X7_40 rfl dX7_undo_1 ?_
  refine lv_if_ne (tgt := 10) hx hb dX7_undo_4 (by decide) (fun c4 => ?_) (fun c4 => ?_)
  · have hc0 : 0 < cn := Nat.pos_of_ne_zero (fun q => c4 (by rw [q]; rfl))
    refine lv_aload_n hx hb dX7_undo_10 rfl (lv_at hl 0 rfl) ?_
    refine lv_dup hx hb dX7_undo_11 rfl ?_
    refine r_get cX inX7 hw hR.1.1 rfl 2 (by decide) wF_X7_40 rfl dX7_undo_12 ?_
    refine lv_iconst (v := 1) hx hb dX7_undo_15 (by decide) ?_
    refine lv_isub hx hb dX7_undo_16 ?_
    refine r_put (fs' := rfO b ((nI cn) - 1) (nI ln) at_ it) cX inX7 tyX7 tyX7_ok nmX7 hw hR.1.1 rfl 2 (by decide) wF_X7_40 rfl rfl rfl rfl (Nat.le_of_ble_eq_true rfl) dX7_undo_17 (fun H locs hw => ?_)
    have hR := hR.ob (ct' := (nI cn) - 1) (len' := nI ln) (at_' := at_) (it' := it)
    rw [show nI cn - 1 = nI (cn - 1) from pk_sub (b := 1) hc0] at hw hR
    refine lv_iconst (v := 0) hx hb dX7_undo_20 (by decide) ?_
    refine lv_istore_n (lv' := [(1, .int 0), (0, .ref (b 0))]) hx hb dX7_undo_21 rfl hl (by decide) rfl (fun ls hl => ?_)
    have lp22 : ∀ (nn i : Nat), i ≤ 153 → 153 < i + nn → ∀ (g : Nat → Int32) (M1 : HM) (H : Heap) (locs : List Loc) (ls : Array Slot), Wd G (dm M s.heap.size) s.heap M1 H locs → Rf G M M1 b g sv sl fl T iF iN (nI (cn - 1)) (nI ln) at_ it → (∀ k, k < i → g k = F ((nx + 7) % 8 + 1) k) → lv_has ls 2 [(1, .int (nI i)), (0, .ref (b 0))] → W p l e (rd 1 0 0) s m args below meth c H locs 0 0 (MQ below (QI G M s.heap.size (fun r M' => r = (s_undo (F, nx, cn, fl, T, ln)).1 ∧ RZ G M M' b (s_undo (F, nx, cn, fl, T, ln)).2)) args s 0 0 (dm M s.heap.size)) (F0 m 22 ls []) := by
      intro nn
      induction nn with
      | zero =>
        intro i h1 h2
        exact absurd h2 (by omega)
      | succ nn ih =>
        intro i hi hin g M1 H locs ls hw hR hA hl
        refine lv_iload_n hx hb dX7_undo_22 rfl (lv_at hl 0 rfl) ?_
        refine lv_sipush (v := 153) hx hb dX7_undo_23 (by decide) ?_
        refine lv_icmp_ge (tgt := 56) hx hb dX7_undo_26 (by decide) (fun c26 => ?_) (fun c26 => ?_)
        · obtain rfl : i = 153 := Nat.le_antisymm hi (ix_ge (b := 153) (by omega) (by decide) c26)
          refine lv_aload_n hx hb dX7_undo_56 rfl (lv_at hl 1 rfl) ?_
          refine r_get cX inX7 hw hR.1.1 rfl 2 (by decide) wF_X7_40 rfl dX7_undo_57 ?_
          have hw := hw.arr hR.1.2.1 (g := F ((nx + 7) % 8 + 1)) (fun i hi => hA i hi)
          have hR := hR.a1 (x := F ((nx + 7) % 8 + 1))
          exact r_iret cX hr hlocks hw (by unfold s_undo; (try dsimp only); rw [if_neg (by omega)]; exact ⟨rfl, sv, sl, iF, iN, at_, it, hR.re (uF_at F 0 (F ((nx + 7) % 8 + 1))).symm, sv_pop hsv hnx hcn hc0, sl_0 hsl, Nat.mod_lt _ (by decide), Nat.le_trans (Nat.sub_le _ _) hcn, hln⟩) dX7_undo_60
        · have hlt : i < 153 := ix_lt (b := 153) (by omega) c26
          refine lv_aload_n hx hb dX7_undo_29 rfl (lv_at hl 1 rfl) ?_
          refine r_get cX inX7 hw hR.1.1 rfl 0 (by decide) wF_X7_7 rfl dX7_undo_30 ?_
          refine lv_iload_n hx hb dX7_undo_33 rfl (lv_at hl 0 rfl) ?_
          refine lv_aload_n hx hb dX7_undo_34 rfl (lv_at hl 1 rfl) ?_
          refine r_get cX inX7 hw hR.1.1 rfl 1 (by decide) wF_X7_13 rfl dX7_undo_35 ?_
          refine lv_sipush (v := 153) hx hb dX7_undo_38 (by decide) ?_
          refine lv_aload_n hx hb dX7_undo_41 rfl (lv_at hl 1 rfl) ?_
          refine r_get cX inX7 hw hR.1.1 rfl 2 (by decide) wF_X7_40 rfl dX7_undo_42 ?_
          refine lv_imul hx hb dX7_undo_45 ?_
          refine lv_iload_n hx hb dX7_undo_46 rfl (lv_at hl 0 rfl) ?_
          refine lv_iadd hx hb dX7_undo_47 ?_
          refine r_iald (v := sv (153 * (cn - 1) + i)) cX hw hR.1.2.2.1 (153 * (cn - 1) + i) (by rw [show (153 : Int32) * nI (cn - 1) = nI (153 * (cn - 1)) from pk_mul 153 (cn - 1), nI_add]) (by omega) (by decide) rfl dX7_undo_48 ?_
          refine r_iast cX hw hR.1.2.1 i rfl (by omega) (by decide) dX7_undo_49 (fun H locs hw => ?_)
          have hR := hR.a1 (x := upd g i (sv (153 * (cn - 1) + i)))
          refine lv_iinc (v := (nI (i + 1))) (lv' := [(1, .int (nI (i + 1))), (0, .ref (b 0))]) hx hb dX7_undo_50 hl (k := 0) rfl (nI_1 i) (by decide) rfl (fun ls hl => ?_)
          refine lv_goto (tgt := 22) hx hb dX7_undo_53 (by decide) ?_
          exact ih (i + 1) (by omega) (by omega) (upd g i (sv (153 * (cn - 1) + i))) _ _ _ _ hw hR (fun k hk => by unfold upd; split; (rename_i q; rw [q, hsv (cn - 1) (by omega) i (by omega), show (nx + 8 - cn + (cn - 1)) % 8 + 1 = (nx + 7) % 8 + 1 by omega]); exact hA k (by omega)) (lv_sub hl [0, 1] rfl)
    exact lp22 (153 + 1) 0 (by omega) (by omega) (F 0) _ _ _ _ hw hR (fun k hk => absurd hk (by omega)) (lv_sub hl [0, 1] rfl)
  · refine lv_bipush (v := (-2)) hx hb dX7_undo_7 (by decide) ?_
    exact r_iret cX hr hlocks hw (by have h0 : cn = 0 := (nI_eq (by omega) (by decide)).mp c4; unfold s_undo; (try dsimp only); rw [if_pos h0]; exact ⟨rfl, RZ.same hR0 hsv hsl hnx hcn hln⟩) dX7_undo_9

set_option maxHeartbeats 4000000 in
set_option maxRecDepth 100000 in
theorem c_X7_save (l : Launch) (G : gG) {M : HM} {b : Nat → Nat} {F : Nat → Nat → Int32} {nx cn ln : Nat} {sv sl fl T iF iN : Nat → Int32} {at_ it : Int32} (hR0 : IsRf G M b (F 0) sv sl fl T iF iN (nI cn) (nI ln) at_ it) (hsv : SVr F nx cn sv) (hsl : SLr F fl sl) (hnx : nx < 8) (hcn : cn ≤ 8) (hln : ln ≤ 120) (x : Int32) : Ci l yX7_save cX7_save 3 .int (rd 1 0 0) G [.ref (b 0), .int x] M (fun r M' => r = (s_save x (F, nx, cn, fl, T, ln)).1 ∧ RZ G M M' b (s_save x (F, nx, cn, fl, T, ln)).2) := by
  refine Ci.of (by decide) (Nat.le_of_ble_eq_true rfl) ?_
  intro p e s m args below meth c ls cX hw hlocks hr hl
  have hx := cX.1
  have hb := cX.2.1
  have hl : lv_has ls 3 [(0, .ref (b 0)), (1, .int x)] := hl
  have hR := hR0.rf
  refine lv_iload_n hx hb dX7_save_0 rfl (lv_at hl 1 rfl) ?_
  refine lv_iconst (v := 0) hx hb dX7_save_1 (by decide) ?_
  refine lv_iconst (v := 1) hx hb dX7_save_2 (by decide) ?_
  refine r_Si cX hw [.int x, .int 0, .int 1] (c_X7_in l G x 0 1) wM_X7_36 mw_X7_in ⟨Nat.le_of_ble_eq_true rfl, Nat.le_of_ble_eq_true rfl⟩ rfl rfl hl.1 (Nat.le_of_ble_eq_true rfl) dX7_save_3 ⟨Nat.le_of_ble_eq_true rfl, Nat.le_of_ble_eq_true rfl⟩ (fun r M1 H locs hp hw => ?_)
  obtain ⟨hr1, hq⟩ := hp
  subst hr1
  rw [hq] at hw
  refine lv_if_ne (tgt := 11) hx hb dX7_save_6 (by decide) (fun c6 => ?_) (fun c6 => ?_)
  · obtain ⟨k, hk, hxk, hxc⟩ := lit_ix 1 (by decide) (if01n c6)
    refine lv_iconst (v := 0) hx hb dX7_save_11 (by decide) ?_
    refine lv_istore_n (lv' := [(2, .int 0), (0, .ref (b 0)), (1, .int x)]) hx hb dX7_save_12 rfl hl (by decide) rfl (fun ls hl => ?_)
    have lp13 : ∀ (nn i : Nat), i ≤ 153 → 153 < i + nn → ∀ (w : Nat → Int32) (M1 : HM) (H : Heap) (locs : List Loc) (ls : Array Slot), Wd G (dm M s.heap.size) s.heap M1 H locs → Rf G M M1 b (F 0) sv w fl T iF iN (nI cn) (nI ln) at_ it → ((∀ j, j < i → w (153 * k + j) = F 0 j) ∧ ∀ q, (q < 153 * k ∨ 153 * k + 153 ≤ q) → w q = sl q) → lv_has ls 3 [(2, .int (nI i)), (1, .int x), (0, .ref (b 0))] → W p l e (rd 1 0 0) s m args below meth c H locs 0 0 (MQ below (QI G M s.heap.size (fun r M' => r = (s_save x (F, nx, cn, fl, T, ln)).1 ∧ RZ G M M' b (s_save x (F, nx, cn, fl, T, ln)).2)) args s 0 0 (dm M s.heap.size)) (F0 m 13 ls []) := by
      intro nn
      induction nn with
      | zero =>
        intro i h1 h2
        exact absurd h2 (by omega)
      | succ nn ih =>
        intro i hi hin w M1 H locs ls hw hR hB hl
        refine lv_iload_n hx hb dX7_save_13 rfl (lv_at hl 0 rfl) ?_
        refine lv_sipush (v := 153) hx hb dX7_save_14 (by decide) ?_
        refine lv_icmp_ge (tgt := 44) hx hb dX7_save_17 (by decide) (fun c17 => ?_) (fun c17 => ?_)
        · obtain rfl : i = 153 := Nat.le_antisymm hi (ix_ge (b := 153) (by omega) (by decide) c17)
          refine lv_aload_n hx hb dX7_save_44 rfl (lv_at hl 2 rfl) ?_
          refine r_get cX inX7 hw hR.1.1 rfl 4 (by decide) wF_X7_19 rfl dX7_save_45 ?_
          refine lv_iload_n hx hb dX7_save_48 rfl (lv_at hl 1 rfl) ?_
          refine lv_iconst (v := 1) hx hb dX7_save_49 (by decide) ?_
          refine r_zast cX hw hR.1.2.2.2.2.1 k hxk hk (by decide) rfl dX7_save_50 (fun H locs hw => ?_)
          have hR := hR.a4 (x := upd fl k 1)
          refine lv_aload_n hx hb dX7_save_51 rfl (lv_at hl 2 rfl) ?_
          refine r_get cX inX7 hw hR.1.1 rfl 0 (by decide) wF_X7_7 rfl dX7_save_52 ?_
          refine lv_iconst (v := 0) hx hb dX7_save_55 (by decide) ?_
          refine r_iald (v := (F 0) 0) cX hw hR.1.2.1 0 rfl (by decide) (by decide) rfl dX7_save_56 ?_
          exact r_iret cX hr hlocks hw (by unfold s_save; (try dsimp only); rw [if_pos (if01n c6), hxc]; exact ⟨rfl, sv, w, iF, iN, at_, it, hR.re (uF_ne F (F 0) (show 0 ≠ k + 9 by omega)).symm, sv_slot hsv k (by omega), sl_save hsl hk hB.1 hB.2, hnx, hcn, hln⟩) dX7_save_57
        · have hlt : i < 153 := ix_lt (b := 153) (by omega) c17
          refine lv_aload_n hx hb dX7_save_20 rfl (lv_at hl 2 rfl) ?_
          refine r_get cX inX7 hw hR.1.1 rfl 3 (by decide) wF_X7_16 rfl dX7_save_21 ?_
          refine lv_sipush (v := 153) hx hb dX7_save_24 (by decide) ?_
          refine lv_iload_n hx hb dX7_save_27 rfl (lv_at hl 1 rfl) ?_
          refine lv_imul hx hb dX7_save_28 ?_
          refine lv_iload_n hx hb dX7_save_29 rfl (lv_at hl 0 rfl) ?_
          refine lv_iadd hx hb dX7_save_30 ?_
          refine lv_aload_n hx hb dX7_save_31 rfl (lv_at hl 2 rfl) ?_
          refine r_get cX inX7 hw hR.1.1 rfl 0 (by decide) wF_X7_7 rfl dX7_save_32 ?_
          refine lv_iload_n hx hb dX7_save_35 rfl (lv_at hl 0 rfl) ?_
          refine r_iald (v := (F 0) i) cX hw hR.1.2.1 i rfl (by omega) (by decide) rfl dX7_save_36 ?_
          refine r_iast cX hw hR.1.2.2.2.1 (153 * k + i) (by rw [hxk, show (153 : Int32) * nI k = nI (153 * k) from pk_mul 153 k, nI_add]) (by omega) (by decide) dX7_save_37 (fun H locs hw => ?_)
          have hR := hR.a3 (x := upd w (153 * k + i) ((F 0) i))
          refine lv_iinc (v := (nI (i + 1))) (lv' := [(2, .int (nI (i + 1))), (1, .int x), (0, .ref (b 0))]) hx hb dX7_save_38 hl (k := 0) rfl (nI_1 i) (by decide) rfl (fun ls hl => ?_)
          refine lv_goto (tgt := 13) hx hb dX7_save_41 (by decide) ?_
          exact ih (i + 1) (by omega) (by omega) (upd w (153 * k + i) ((F 0) i)) _ _ _ _ hw hR (⟨fun j hj => by unfold upd; split; (rename_i q; rw [show j = i by omega]); exact hB.1 j (by omega), fun q hq => by rw [pk_un (by omega)]; exact hB.2 q hq⟩) (lv_sub hl [0, 1, 2] rfl)
    exact lp13 (153 + 1) 0 (by omega) (by omega) sl _ _ _ _ hw hR (⟨fun j hj => absurd hj (by omega), fun q _ => rfl⟩) (lv_sub hl [0, 2, 1] rfl)
  · refine lv_iconst (v := (-1)) hx hb dX7_save_9 (by decide) ?_
    exact r_iret cX hr hlocks hw (by unfold s_save; (try dsimp only); rw [if_neg (if01e c6)]; exact ⟨rfl, RZ.same hR0 hsv hsl hnx hcn hln⟩) dX7_save_10

set_option maxHeartbeats 4000000 in
set_option maxRecDepth 100000 in
theorem c_X7_restore (l : Launch) (G : gG) {M : HM} {b : Nat → Nat} {F : Nat → Nat → Int32} {nx cn ln : Nat} {sv sl fl T iF iN : Nat → Int32} {at_ it : Int32} (hR0 : IsRf G M b (F 0) sv sl fl T iF iN (nI cn) (nI ln) at_ it) (hsv : SVr F nx cn sv) (hsl : SLr F fl sl) (hnx : nx < 8) (hcn : cn ≤ 8) (hln : ln ≤ 120) (x : Int32) : Ci l yX7_restore cX7_restore 3 .int (rd 1 0 0) G [.ref (b 0), .int x] M (fun r M' => r = (s_restore x (F, nx, cn, fl, T, ln)).1 ∧ RZ G M M' b (s_restore x (F, nx, cn, fl, T, ln)).2) := by
  refine Ci.of (by decide) (Nat.le_of_ble_eq_true rfl) ?_
  intro p e s m args below meth c ls cX hw hlocks hr hl
  have hx := cX.1
  have hb := cX.2.1
  have hl : lv_has ls 3 [(0, .ref (b 0)), (1, .int x)] := hl
  have hR := hR0.rf
  refine lv_iload_n hx hb dX7_restore_0 rfl (lv_at hl 1 rfl) ?_
  refine lv_iconst (v := 0) hx hb dX7_restore_1 (by decide) ?_
  refine lv_iconst (v := 1) hx hb dX7_restore_2 (by decide) ?_
  refine r_Si cX hw [.int x, .int 0, .int 1] (c_X7_in l G x 0 1) wM_X7_36 mw_X7_in ⟨Nat.le_of_ble_eq_true rfl, Nat.le_of_ble_eq_true rfl⟩ rfl rfl hl.1 (Nat.le_of_ble_eq_true rfl) dX7_restore_3 ⟨Nat.le_of_ble_eq_true rfl, Nat.le_of_ble_eq_true rfl⟩ (fun r M1 H locs hp hw => ?_)
  obtain ⟨hr1, hq⟩ := hp
  subst hr1
  rw [hq] at hw
  refine lv_if_ne (tgt := 11) hx hb dX7_restore_6 (by decide) (fun c6 => ?_) (fun c6 => ?_)
  · obtain ⟨k, hk, hxk, hxc⟩ := lit_ix 1 (by decide) (if01n c6)
    refine lv_aload_n hx hb dX7_restore_11 rfl (lv_at hl 0 rfl) ?_
    refine r_get cX inX7 hw hR.1.1 rfl 4 (by decide) wF_X7_19 rfl dX7_restore_12 ?_
    refine lv_iload_n hx hb dX7_restore_15 rfl (lv_at hl 1 rfl) ?_
    refine r_zald (v := fl k) cX hw hR.1.2.2.2.2.1 k hxk hk (by decide) rfl dX7_restore_16 ?_
    refine lv_if_ne (tgt := 23) hx hb dX7_restore_17 (by decide) (fun c17 => ?_) (fun c17 => ?_)
    · refine lv_iconst (v := 0) hx hb dX7_restore_23 (by decide) ?_
      refine lv_istore_n (lv' := [(2, .int 0), (0, .ref (b 0)), (1, .int x)]) hx hb dX7_restore_24 rfl hl (by decide) rfl (fun ls hl => ?_)
      have lp25 : ∀ (nn i : Nat), i ≤ 153 → 153 < i + nn → ∀ (g : Nat → Int32) (M1 : HM) (H : Heap) (locs : List Loc) (ls : Array Slot), Wd G (dm M s.heap.size) s.heap M1 H locs → Rf G M M1 b g sv sl fl T iF iN (nI cn) (nI ln) at_ it → (∀ q, q < i → g q = F (k + 9) q) → lv_has ls 3 [(2, .int (nI i)), (1, .int x), (0, .ref (b 0))] → W p l e (rd 1 0 0) s m args below meth c H locs 0 0 (MQ below (QI G M s.heap.size (fun r M' => r = (s_restore x (F, nx, cn, fl, T, ln)).1 ∧ RZ G M M' b (s_restore x (F, nx, cn, fl, T, ln)).2)) args s 0 0 (dm M s.heap.size)) (F0 m 25 ls []) := by
        intro nn
        induction nn with
        | zero =>
          intro i h1 h2
          exact absurd h2 (by omega)
        | succ nn ih =>
          intro i hi hin g M1 H locs ls hw hR hA hl
          refine lv_iload_n hx hb dX7_restore_25 rfl (lv_at hl 0 rfl) ?_
          refine lv_sipush (v := 153) hx hb dX7_restore_26 (by decide) ?_
          refine lv_icmp_ge (tgt := 56) hx hb dX7_restore_29 (by decide) (fun c29 => ?_) (fun c29 => ?_)
          · obtain rfl : i = 153 := Nat.le_antisymm hi (ix_ge (b := 153) (by omega) (by decide) c29)
            have hw := hw.arr hR.1.2.1 (g := F (k + 9)) (fun i hi => hA i hi)
            have hR := hR.a1 (x := F (k + 9))
            refine lv_aload_n hx hb dX7_restore_56 rfl (lv_at hl 2 rfl) ?_
            refine lv_iconst (v := 0) hx hb dX7_restore_57 (by decide) ?_
            refine r_put (fs' := rfO b 0 (nI ln) at_ it) cX inX7 tyX7 tyX7_ok nmX7 hw hR.1.1 rfl 2 (by decide) wF_X7_40 rfl rfl rfl rfl (Nat.le_of_ble_eq_true rfl) dX7_restore_58 (fun H locs hw => ?_)
            have hR := hR.ob (ct' := 0) (len' := nI ln) (at_' := at_) (it' := it)
            refine lv_aload_n hx hb dX7_restore_61 rfl (lv_at hl 2 rfl) ?_
            refine r_get cX inX7 hw hR.1.1 rfl 0 (by decide) wF_X7_7 rfl dX7_restore_62 ?_
            refine lv_iconst (v := 0) hx hb dX7_restore_65 (by decide) ?_
            refine r_iald (v := (F (k + 9)) 0) cX hw hR.1.2.1 0 rfl (by decide) (by decide) rfl dX7_restore_66 ?_
            exact r_iret cX hr hlocks hw (by unfold s_restore; (try dsimp only); rw [if_pos (if01n c6), hxc, if_neg c17]; exact ⟨rfl, sv, sl, iF, iN, at_, it, hR.re (uF_at F 0 (F (k + 9))).symm, fun k hk => absurd hk (Nat.not_lt_zero _), sl_0 hsl, hnx, Nat.zero_le _, hln⟩) dX7_restore_67
          · have hlt : i < 153 := ix_lt (b := 153) (by omega) c29
            refine lv_aload_n hx hb dX7_restore_32 rfl (lv_at hl 2 rfl) ?_
            refine r_get cX inX7 hw hR.1.1 rfl 0 (by decide) wF_X7_7 rfl dX7_restore_33 ?_
            refine lv_iload_n hx hb dX7_restore_36 rfl (lv_at hl 0 rfl) ?_
            refine lv_aload_n hx hb dX7_restore_37 rfl (lv_at hl 2 rfl) ?_
            refine r_get cX inX7 hw hR.1.1 rfl 3 (by decide) wF_X7_16 rfl dX7_restore_38 ?_
            refine lv_sipush (v := 153) hx hb dX7_restore_41 (by decide) ?_
            refine lv_iload_n hx hb dX7_restore_44 rfl (lv_at hl 1 rfl) ?_
            refine lv_imul hx hb dX7_restore_45 ?_
            refine lv_iload_n hx hb dX7_restore_46 rfl (lv_at hl 0 rfl) ?_
            refine lv_iadd hx hb dX7_restore_47 ?_
            refine r_iald (v := sl (153 * k + i)) cX hw hR.1.2.2.2.1 (153 * k + i) (by rw [hxk, show (153 : Int32) * nI k = nI (153 * k) from pk_mul 153 k, nI_add]) (by omega) (by decide) rfl dX7_restore_48 ?_
            refine r_iast cX hw hR.1.2.1 i rfl (by omega) (by decide) dX7_restore_49 (fun H locs hw => ?_)
            have hR := hR.a1 (x := upd g i (sl (153 * k + i)))
            refine lv_iinc (v := (nI (i + 1))) (lv' := [(2, .int (nI (i + 1))), (1, .int x), (0, .ref (b 0))]) hx hb dX7_restore_50 hl (k := 0) rfl (nI_1 i) (by decide) rfl (fun ls hl => ?_)
            refine lv_goto (tgt := 25) hx hb dX7_restore_53 (by decide) ?_
            exact ih (i + 1) (by omega) (by omega) (upd g i (sl (153 * k + i))) _ _ _ _ hw hR (fun q hq => by unfold upd; split; (rename_i z; rw [z, hsl k hk c17 i (by omega)]); exact hA q (by omega)) (lv_sub hl [0, 1, 2] rfl)
      exact lp25 (153 + 1) 0 (by omega) (by omega) (F 0) _ _ _ _ hw hR (fun k hk => absurd hk (by omega)) (lv_sub hl [0, 2, 1] rfl)
    · refine lv_bipush (v := (-2)) hx hb dX7_restore_20 (by decide) ?_
      exact r_iret cX hr hlocks hw (by unfold s_restore; (try dsimp only); rw [if_pos (if01n c6), hxc, if_pos c17]; exact ⟨rfl, RZ.same hR0 hsv hsl hnx hcn hln⟩) dX7_restore_22
  · refine lv_iconst (v := (-1)) hx hb dX7_restore_9 (by decide) ?_
    exact r_iret cX hr hlocks hw (by unfold s_restore; (try dsimp only); rw [if_neg (if01e c6)]; exact ⟨rfl, RZ.same hR0 hsv hsl hnx hcn hln⟩) dX7_restore_10
