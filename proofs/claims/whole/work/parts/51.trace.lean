def trO (b len : Nat) (pos pk itf ita : Int32) : List Value := [.ref b, .int (nI len), .int pos, .int pk, .int itf, .int ita]
theorem muE {M M1 : HM} {a : Nat} {e0 e : va_E} (h : M1 = mu M a e0) : mu M1 a e = mu M a e := by rw [h, mu_mu]
theorem muE2 {M M1 M2 : HM} {a : Nat} {e0 e : va_E} (h : M1 = mu M a e0) (h2 : M2 = mu M1 a e) : M2 = mu M a e := by rw [h2, h, mu_mu]
theorem dg_if (T : Nat → Int32) (n p : Nat) : (if (48 : Int32) ≤ cd T n p ∧ cd T n p ≤ 57 then (1 : Int32) else 0) = (if dgB T n p = true then 1 else 0) := by
  unfold cd
  by_cases h : p < n
  · rw [if_pos h]
    by_cases q : (48 : Int32) ≤ T p ∧ T p ≤ 57
    · rw [if_pos q, if_pos (by simp only [dgB, decide_eq_true_eq]; exact ⟨h, q⟩)]
    · rw [if_neg q, if_neg (fun z => q (dg_lt z).2)]
  · rw [if_neg h, if_neg (fun z => absurd z.1 (by decide)), if_neg (fun z => h (dg_lt z).1)]
theorem nm_stop {T : Nat → Int32} {n m p : Nat} {v : Int32} (h : ¬ (¬ v = 0 ∧ dgB T n p = true)) : nmN T n m v p = (v, p) := by
  cases m with
  | zero => rfl
  | succ m =>
    show (if _ then _ else _) = _
    rw [if_neg h]
set_option maxHeartbeats 4000000 in
set_option maxRecDepth 100000 in
theorem c_X5_isAtEnd (l : Launch) (G : gG) {M : HM} {a b : Nat} {len pp : Nat} {pk itf ita : Int32} {T : Nat → Int32} (hM : M a = some (.inr (5, trO b len (nI pp) pk itf ita))) (hB : M b = some (.inl (G.2 0, 120, .inl T))) (hlen : len ≤ 120) (hpp : pp ≤ len) : Ci l yX5_isAtEnd cX5_isAtEnd 1 .boolean (rd 0 0 0) G [.ref a] M (fun r M' => r = (if len ≤ pp then 1 else 0) ∧ M' = M) := by
  have hab : a ≠ b := fun z => by rw [z, hB] at hM; cases hM
  refine Ci.of (by decide) (Nat.le_of_ble_eq_true rfl) ?_
  intro p e s m args below meth c ls cX hw hlocks hr hl
  have hx := cX.1
  have hb := cX.2.1
  have hl : lv_has ls 1 [(0, .ref a)] := hl
  have hE : M = mu M a (.inr (5, trO b len (nI pp) pk itf ita)) := (mu_self hM).symm
  refine lv_aload_n hx hb dX5_isAtEnd_0 rfl (lv_at hl 0 rfl) ?_
  refine r_get cX inX5 hw (by rw [hE]; exact mu_at _ _ _) rfl 2 (by decide) wF_X5_19 rfl dX5_isAtEnd_1 ?_
  refine lv_aload_n hx hb dX5_isAtEnd_4 rfl (lv_at hl 0 rfl) ?_
  refine r_get cX inX5 hw (by rw [hE]; exact mu_at _ _ _) rfl 1 (by decide) wF_X5_15 rfl dX5_isAtEnd_5 ?_
  refine lv_icmp_lt (tgt := 15) hx hb dX5_isAtEnd_8 (by decide) (fun c8 => ?_) (fun c8 => ?_)
  · refine lv_iconst (v := 0) hx hb dX5_isAtEnd_15 (by decide) ?_
    exact r_zret cX hr hlocks rfl hw ⟨(if_neg (fun h => nI_nlt h (by omega) c8)).symm, rfl⟩ dX5_isAtEnd_16
  · refine lv_iconst (v := 1) hx hb dX5_isAtEnd_11 (by decide) ?_
    refine lv_goto (tgt := 16) hx hb dX5_isAtEnd_12 (by decide) ?_
    exact r_zret cX hr hlocks rfl hw ⟨(if_pos (Nat.not_lt.mp (fun h => c8 (nI_lt h (by omega))))).symm, rfl⟩ dX5_isAtEnd_16

set_option maxHeartbeats 4000000 in
set_option maxRecDepth 100000 in
theorem c_X5_codeHere (l : Launch) (G : gG) {M : HM} {a b : Nat} {len pp : Nat} {pk itf ita : Int32} {T : Nat → Int32} (hM : M a = some (.inr (5, trO b len (nI pp) pk itf ita))) (hB : M b = some (.inl (G.2 0, 120, .inl T))) (hlen : len ≤ 120) (hpp : pp ≤ len) : Ci l yX5_codeHere cX5_codeHere 1 .int (rd 1 0 0) G [.ref a] M (fun r M' => r = cd T len pp ∧ M' = M) := by
  have hab : a ≠ b := fun z => by rw [z, hB] at hM; cases hM
  refine Ci.of (by decide) (Nat.le_of_ble_eq_true rfl) ?_
  intro p e s m args below meth c ls cX hw hlocks hr hl
  have hx := cX.1
  have hb := cX.2.1
  have hl : lv_has ls 1 [(0, .ref a)] := hl
  have hE : M = mu M a (.inr (5, trO b len (nI pp) pk itf ita)) := (mu_self hM).symm
  refine lv_aload_n hx hb dX5_codeHere_0 rfl (lv_at hl 0 rfl) ?_
  refine r_Vi cX hw (by rw [hE]; exact mu_at _ _ _) rfl [] (c_X5_isAtEnd l G (by rw [hE]; exact mu_at _ _ _) (by rw [hE, mu_ne _ _ (Ne.symm hab)]; exact hB) hlen hpp) wM_X5_28 mw_X5_isAtEnd ⟨Nat.le_of_ble_eq_true rfl, Nat.le_of_ble_eq_true rfl⟩ rfl rfl hl.1 (Nat.le_of_ble_eq_true rfl) dX5_codeHere_1 ⟨Nat.le_of_ble_eq_true rfl, Nat.le_of_ble_eq_true rfl⟩ (fun r M1 H locs hp hw => ?_)
  obtain ⟨hr1, hq⟩ := hp
  subst hr1
  rw [hq] at hw
  refine lv_if_eq (tgt := 11) hx hb dX5_codeHere_4 (by decide) (fun c4 => ?_) (fun c4 => ?_)
  · have hlt : pp < len := Nat.not_le.mp (if01e c4)
    refine lv_aload_n hx hb dX5_codeHere_11 rfl (lv_at hl 0 rfl) ?_
    refine r_get cX inX5 hw (by rw [hE]; exact mu_at _ _ _) rfl 0 (by decide) wF_X5_9 rfl dX5_codeHere_12 ?_
    refine lv_aload_n hx hb dX5_codeHere_15 rfl (lv_at hl 0 rfl) ?_
    refine r_get cX inX5 hw (by rw [hE]; exact mu_at _ _ _) rfl 2 (by decide) wF_X5_19 rfl dX5_codeHere_16 ?_
    refine r_iald (v := T pp) cX hw (by rw [hE, mu_ne _ _ (Ne.symm hab)]; exact hB) pp rfl (by omega) (by decide) rfl dX5_codeHere_19 ?_
    exact r_iret cX hr hlocks hw ⟨(if_pos hlt).symm, rfl⟩ dX5_codeHere_20
  · refine lv_iconst (v := (-1)) hx hb dX5_codeHere_7 (by decide) ?_
    refine lv_goto (tgt := 20) hx hb dX5_codeHere_8 (by decide) ?_
    exact r_iret cX hr hlocks hw ⟨(if_neg (Nat.not_lt.mpr (if01n c4))).symm, rfl⟩ dX5_codeHere_20

set_option maxHeartbeats 4000000 in
set_option maxRecDepth 100000 in
theorem c_X5_isDigitHere (l : Launch) (G : gG) {M : HM} {a b : Nat} {len pp : Nat} {pk itf ita : Int32} {T : Nat → Int32} (hM : M a = some (.inr (5, trO b len (nI pp) pk itf ita))) (hB : M b = some (.inl (G.2 0, 120, .inl T))) (hlen : len ≤ 120) (hpp : pp ≤ len) : Ci l yX5_isDigitHere cX5_isDigitHere 1 .boolean (rd 2 0 0) G [.ref a] M (fun r M' => r = (if dgB T len pp = true then 1 else 0) ∧ M' = M) := by
  have hab : a ≠ b := fun z => by rw [z, hB] at hM; cases hM
  refine Ci.of (by decide) (Nat.le_of_ble_eq_true rfl) ?_
  intro p e s m args below meth c ls cX hw hlocks hr hl
  have hx := cX.1
  have hb := cX.2.1
  have hl : lv_has ls 1 [(0, .ref a)] := hl
  have hE : M = mu M a (.inr (5, trO b len (nI pp) pk itf ita)) := (mu_self hM).symm
  refine lv_aload_n hx hb dX5_isDigitHere_0 rfl (lv_at hl 0 rfl) ?_
  refine r_Vi cX hw (by rw [hE]; exact mu_at _ _ _) rfl [] (c_X5_codeHere l G (by rw [hE]; exact mu_at _ _ _) (by rw [hE, mu_ne _ _ (Ne.symm hab)]; exact hB) hlen hpp) wM_X5_56 mw_X5_codeHere ⟨Nat.le_of_ble_eq_true rfl, Nat.le_of_ble_eq_true rfl⟩ rfl rfl hl.1 (Nat.le_of_ble_eq_true rfl) dX5_isDigitHere_1 ⟨Nat.le_of_ble_eq_true rfl, Nat.le_of_ble_eq_true rfl⟩ (fun r M1 H locs hp hw => ?_)
  obtain ⟨hr1, hq⟩ := hp
  subst hr1
  rw [hq] at hw
  refine lv_bipush (v := 48) hx hb dX5_isDigitHere_4 (by decide) ?_
  refine lv_bipush (v := 57) hx hb dX5_isDigitHere_6 (by decide) ?_
  refine r_SNi cX hw [.int (cd T len pp), .int 48, .int 57] (c_X6_isBetween l G (cd T len pp) 48 57) wM_X5_59 mw_X6_isBetween ⟨Nat.le_of_ble_eq_true rfl, Nat.le_of_ble_eq_true rfl⟩ rfl rfl hl.1 (Nat.le_of_ble_eq_true rfl) dX5_isDigitHere_8 ⟨Nat.le_of_ble_eq_true rfl, Nat.le_of_ble_eq_true rfl⟩ (fun r M1 H locs hp hw => ?_)
  obtain ⟨hr1, hq⟩ := hp
  subst hr1
  rw [hq] at hw
  exact r_zret cX hr hlocks (z01n (if01 _)) hw ⟨dg_if T len pp, rfl⟩ dX5_isDigitHere_11

set_option maxHeartbeats 4000000 in
set_option maxRecDepth 100000 in
theorem c_X5_skipSpaces (l : Launch) (G : gG) {M : HM} {a b : Nat} {len pp : Nat} {pk itf ita : Int32} {T : Nat → Int32} (hM : M a = some (.inr (5, trO b len (nI pp) pk itf ita))) (hB : M b = some (.inl (G.2 0, 120, .inl T))) (hlen : len ≤ 120) (hpp : pp ≤ len) : Cv l yX5_skipSpaces cX5_skipSpaces 1 (rd 2 0 0) G [.ref a] M (fun M' => M' = mu M a (.inr (5, trO b len (nI (sk T len pp)) pk itf ita))) := by
  have hab : a ≠ b := fun z => by rw [z, hB] at hM; cases hM
  refine Cv.of (by decide) (Nat.le_of_ble_eq_true rfl) ?_
  intro p e s m args below meth c ls cX hw hlocks hr hnm hl
  have hx := cX.1
  have hb := cX.2.1
  have hl : lv_has ls 1 [(0, .ref a)] := hl
  have hE : M = mu M a (.inr (5, trO b len (nI pp) pk itf ita)) := (mu_self hM).symm
  have lp0 : ∀ (nn i : Nat), i ≤ len → len < i + nn → ∀ (M1 : HM) (H : Heap) (locs : List Loc) (ls : Array Slot), Wd G (dm M s.heap.size) s.heap M1 H locs → M1 = mu M a (.inr (5, trO b len (nI i) pk itf ita)) → sk T len i = sk T len pp → lv_has ls 1 [(0, .ref a)] → W p l e (rd 2 0 0) s m args below meth c H locs 0 0 (MQ below (QV G M s.heap.size (fun M' => M' = mu M a (.inr (5, trO b len (nI (sk T len pp)) pk itf ita)))) args s 0 0 (dm M s.heap.size)) (F0 m 0 ls []) := by
    intro nn
    induction nn with
    | zero =>
      intro i h1 h2
      exact absurd h2 (by omega)
    | succ nn ih =>
      intro i hi hin M1 H locs ls hw hE hk hl
      refine lv_aload_n hx hb dX5_skipSpaces_0 rfl (lv_at hl 0 rfl) ?_
      refine r_get cX inX5 hw (by rw [hE]; exact mu_at _ _ _) rfl 2 (by decide) wF_X5_19 rfl dX5_skipSpaces_1 ?_
      refine lv_aload_n hx hb dX5_skipSpaces_4 rfl (lv_at hl 0 rfl) ?_
      refine r_get cX inX5 hw (by rw [hE]; exact mu_at _ _ _) rfl 1 (by decide) wF_X5_15 rfl dX5_skipSpaces_5 ?_
      refine lv_icmp_ge (tgt := 33) hx hb dX5_skipSpaces_8 (by decide) (fun c8 => ?_) (fun c8 => ?_)
      · have hs : sk T len i = i := sk_ge (ix_ge (by omega) (by omega) c8)
        exact r_vret cX hr hlocks hw (by rw [← hk, hs]; exact hE) dX5_skipSpaces_33
      · have hlt : i < len := ix_lt (by omega) c8
        refine lv_aload_n hx hb dX5_skipSpaces_11 rfl (lv_at hl 0 rfl) ?_
        refine r_Vi cX hw (by rw [hE]; exact mu_at _ _ _) rfl [] (c_X5_codeHere l G (by rw [hE]; exact mu_at _ _ _) (by rw [hE, mu_ne _ _ (Ne.symm hab)]; exact hB) hlen hi) wM_X5_56 mw_X5_codeHere ⟨Nat.le_of_ble_eq_true rfl, Nat.le_of_ble_eq_true rfl⟩ rfl rfl hl.1 (Nat.le_of_ble_eq_true rfl) dX5_skipSpaces_12 ⟨Nat.le_of_ble_eq_true rfl, Nat.le_of_ble_eq_true rfl⟩ (fun r M1 H locs hp hw => ?_)
        obtain ⟨hr1, hq⟩ := hp
        subst hr1
        rw [hq] at hw
        refine lv_bipush (v := 32) hx hb dX5_skipSpaces_15 (by decide) ?_
        refine lv_icmp_ne (tgt := 33) hx hb dX5_skipSpaces_17 (by decide) (fun c17 => ?_) (fun c17 => ?_)
        · have hs : sk T len i = i := by rw [sk_step hlt, if_neg (by have q := c17; unfold cd at q; rw [if_pos hlt] at q; exact q)]
          exact r_vret cX hr hlocks hw (by rw [← hk, hs]; exact hE) dX5_skipSpaces_33
        · refine lv_aload_n hx hb dX5_skipSpaces_20 rfl (lv_at hl 0 rfl) ?_
          refine lv_dup hx hb dX5_skipSpaces_21 rfl ?_
          refine r_get cX inX5 hw (by rw [hE]; exact mu_at _ _ _) rfl 2 (by decide) wF_X5_19 rfl dX5_skipSpaces_22 ?_
          refine lv_iconst (v := 1) hx hb dX5_skipSpaces_25 (by decide) ?_
          refine lv_iadd hx hb dX5_skipSpaces_26 ?_
          refine r_put (fs' := trO b len ((nI i) + 1) pk itf ita) cX inX5 tyX5 tyX5_ok nmX5 hw (by rw [hE]; exact mu_at _ _ _) rfl 2 (by decide) wF_X5_19 rfl rfl rfl rfl (Nat.le_of_ble_eq_true rfl) dX5_skipSpaces_27 (fun H locs hw => ?_)
          have hE := muE (e := .inr (5, trO b len ((nI i) + 1) pk itf ita)) hE
          rw [nI_1] at hw hE
          refine lv_goto (tgt := 0) hx hb dX5_skipSpaces_30 (by decide) ?_
          exact ih (i + 1) (by omega) (by omega) _ _ _ _ hw hE (by rw [← hk, sk_step hlt, if_pos (by have q := c17; unfold cd at q; rw [if_pos hlt] at q; exact q)]) (lv_sub hl [0] rfl)
  exact lp0 (len + 1) pp (by omega) (by omega) _ _ _ _ hw hE rfl (lv_sub hl [0] rfl)

set_option maxHeartbeats 4000000 in
set_option maxRecDepth 100000 in
theorem c_X5_accept (l : Launch) (G : gG) {M : HM} {a b : Nat} {len pp : Nat} {pk itf ita : Int32} {T : Nat → Int32} (hM : M a = some (.inr (5, trO b len (nI pp) pk itf ita))) (hB : M b = some (.inl (G.2 0, 120, .inl T))) (hlen : len ≤ 120) (hpp : pp ≤ len) (ch : Int32) (hch : ¬ ch = -1) : Ci l yX5_accept cX5_accept 2 .boolean (rd 3 0 0) G [.ref a, .int ch] M (fun r M' => r = (if cd T len pp = ch then 1 else 0) ∧ M' = mu M a (.inr (5, trO b len (nI (if cd T len pp = ch then sk T len (pp + 1) else pp)) pk itf ita))) := by
  have hab : a ≠ b := fun z => by rw [z, hB] at hM; cases hM
  refine Ci.of (by decide) (Nat.le_of_ble_eq_true rfl) ?_
  intro p e s m args below meth c ls cX hw hlocks hr hl
  have hx := cX.1
  have hb := cX.2.1
  have hl : lv_has ls 2 [(0, .ref a), (1, .int ch)] := hl
  have hE : M = mu M a (.inr (5, trO b len (nI pp) pk itf ita)) := (mu_self hM).symm
  refine lv_aload_n hx hb dX5_accept_0 rfl (lv_at hl 0 rfl) ?_
  refine r_Vi cX hw (by rw [hE]; exact mu_at _ _ _) rfl [] (c_X5_codeHere l G (by rw [hE]; exact mu_at _ _ _) (by rw [hE, mu_ne _ _ (Ne.symm hab)]; exact hB) hlen hpp) wM_X5_56 mw_X5_codeHere ⟨Nat.le_of_ble_eq_true rfl, Nat.le_of_ble_eq_true rfl⟩ rfl rfl hl.1 (Nat.le_of_ble_eq_true rfl) dX5_accept_1 ⟨Nat.le_of_ble_eq_true rfl, Nat.le_of_ble_eq_true rfl⟩ (fun r M1 H locs hp hw => ?_)
  obtain ⟨hr1, hq⟩ := hp
  subst hr1
  rw [hq] at hw
  refine lv_iload_n hx hb dX5_accept_4 rfl (lv_at hl 1 rfl) ?_
  refine lv_icmp_eq (tgt := 10) hx hb dX5_accept_5 (by decide) (fun c5 => ?_) (fun c5 => ?_)
  · have hlt : pp < len := cd_lt hch c5
    refine lv_aload_n hx hb dX5_accept_10 rfl (lv_at hl 0 rfl) ?_
    refine lv_dup hx hb dX5_accept_11 rfl ?_
    refine r_get cX inX5 hw (by rw [hE]; exact mu_at _ _ _) rfl 2 (by decide) wF_X5_19 rfl dX5_accept_12 ?_
    refine lv_iconst (v := 1) hx hb dX5_accept_15 (by decide) ?_
    refine lv_iadd hx hb dX5_accept_16 ?_
    refine r_put (fs' := trO b len ((nI pp) + 1) pk itf ita) cX inX5 tyX5 tyX5_ok nmX5 hw (by rw [hE]; exact mu_at _ _ _) rfl 2 (by decide) wF_X5_19 rfl rfl rfl rfl (Nat.le_of_ble_eq_true rfl) dX5_accept_17 (fun H locs hw => ?_)
    have hE := muE (e := .inr (5, trO b len ((nI pp) + 1) pk itf ita)) hE
    rw [nI_1] at hw hE
    refine lv_aload_n hx hb dX5_accept_20 rfl (lv_at hl 0 rfl) ?_
    refine r_Vv cX hw (by rw [hE]; exact mu_at _ _ _) rfl [] (c_X5_skipSpaces l G (by rw [hE]; exact mu_at _ _ _) (by rw [hE, mu_ne _ _ (Ne.symm hab)]; exact hB) hlen hlt) wM_X5_22 mw_X5_skipSpaces ⟨Nat.le_of_ble_eq_true rfl, Nat.le_of_ble_eq_true rfl⟩ rfl rfl hl.1 (Nat.le_of_ble_eq_true rfl) dX5_accept_21 ⟨Nat.le_of_ble_eq_true rfl, Nat.le_of_ble_eq_true rfl⟩ (fun M1 H locs hp hw => ?_)
    have hE := muE2 hE hp
    refine lv_iconst (v := 1) hx hb dX5_accept_24 (by decide) ?_
    exact r_zret cX hr hlocks rfl hw ⟨by rw [if_pos c5], by rw [if_pos c5]; exact hE⟩ dX5_accept_25
  · refine lv_iconst (v := 0) hx hb dX5_accept_8 (by decide) ?_
    exact r_zret cX hr hlocks rfl hw ⟨by rw [if_neg c5], by rw [if_neg c5]; exact hE⟩ dX5_accept_9

set_option maxHeartbeats 4000000 in
set_option maxRecDepth 100000 in
theorem c_X5_readNumber (l : Launch) (G : gG) {M : HM} {a b : Nat} {len pp : Nat} {pk itf ita : Int32} {T : Nat → Int32} (hM : M a = some (.inr (5, trO b len (nI pp) pk itf ita))) (hB : M b = some (.inl (G.2 0, 120, .inl T))) (hlen : len ≤ 120) (hpp : pp ≤ len) : Ci l yX5_readNumber cX5_readNumber 3 .int (rd 3 0 0) G [.ref a] M (fun r M' => r = (num T len pp).1 ∧ M' = mu M a (.inr (5, trO b len (nI (num T len pp).2) pk itf ita))) := by
  have hab : a ≠ b := fun z => by rw [z, hB] at hM; cases hM
  refine Ci.of (by decide) (Nat.le_of_ble_eq_true rfl) ?_
  intro p e s m args below meth c ls cX hw hlocks hr hl
  have hx := cX.1
  have hb := cX.2.1
  have hl : lv_has ls 3 [(0, .ref a)] := hl
  have hE : M = mu M a (.inr (5, trO b len (nI pp) pk itf ita)) := (mu_self hM).symm
  refine lv_aload_n hx hb dX5_readNumber_0 rfl (lv_at hl 0 rfl) ?_
  refine r_Vi cX hw (by rw [hE]; exact mu_at _ _ _) rfl [] (c_X5_isDigitHere l G (by rw [hE]; exact mu_at _ _ _) (by rw [hE, mu_ne _ _ (Ne.symm hab)]; exact hB) hlen hpp) wM_X5_53 mw_X5_isDigitHere ⟨Nat.le_of_ble_eq_true rfl, Nat.le_of_ble_eq_true rfl⟩ rfl rfl hl.1 (Nat.le_of_ble_eq_true rfl) dX5_readNumber_1 ⟨Nat.le_of_ble_eq_true rfl, Nat.le_of_ble_eq_true rfl⟩ (fun r M1 H locs hp hw => ?_)
  obtain ⟨hr1, hq⟩ := hp
  subst hr1
  rw [hq] at hw
  refine lv_if_ne (tgt := 9) hx hb dX5_readNumber_4 (by decide) (fun c4 => ?_) (fun c4 => ?_)
  · have hd : dgB T len pp = true := if01n c4
    have hlt := (dg_lt hd).1
    refine lv_aload_n hx hb dX5_readNumber_9 rfl (lv_at hl 0 rfl) ?_
    refine r_Vi cX hw (by rw [hE]; exact mu_at _ _ _) rfl [] (c_X5_codeHere l G (by rw [hE]; exact mu_at _ _ _) (by rw [hE, mu_ne _ _ (Ne.symm hab)]; exact hB) hlen hpp) wM_X5_56 mw_X5_codeHere ⟨Nat.le_of_ble_eq_true rfl, Nat.le_of_ble_eq_true rfl⟩ rfl rfl hl.1 (Nat.le_of_ble_eq_true rfl) dX5_readNumber_10 ⟨Nat.le_of_ble_eq_true rfl, Nat.le_of_ble_eq_true rfl⟩ (fun r M1 H locs hp hw => ?_)
    obtain ⟨hr1, hq⟩ := hp
    subst hr1
    rw [hq] at hw
    refine lv_bipush (v := 48) hx hb dX5_readNumber_13 (by decide) ?_
    refine lv_isub hx hb dX5_readNumber_15 ?_
    rw [show cd T len pp = T pp from if_pos hlt]
    refine lv_istore_n (lv' := [(1, .int (T pp - 48)), (0, .ref a)]) hx hb dX5_readNumber_16 rfl hl (by decide) rfl (fun ls hl => ?_)
    refine lv_aload_n hx hb dX5_readNumber_17 rfl (lv_at hl 1 rfl) ?_
    refine lv_dup hx hb dX5_readNumber_18 rfl ?_
    refine r_get cX inX5 hw (by rw [hE]; exact mu_at _ _ _) rfl 2 (by decide) wF_X5_19 rfl dX5_readNumber_19 ?_
    refine lv_iconst (v := 1) hx hb dX5_readNumber_22 (by decide) ?_
    refine lv_iadd hx hb dX5_readNumber_23 ?_
    refine r_put (fs' := trO b len ((nI pp) + 1) pk itf ita) cX inX5 tyX5 tyX5_ok nmX5 hw (by rw [hE]; exact mu_at _ _ _) rfl 2 (by decide) wF_X5_19 rfl rfl rfl rfl (Nat.le_of_ble_eq_true rfl) dX5_readNumber_24 (fun H locs hw => ?_)
    have hE := muE (e := .inr (5, trO b len ((nI pp) + 1) pk itf ita)) hE
    rw [nI_1] at hw hE
    refine lv_iconst (v := 1) hx hb dX5_readNumber_27 (by decide) ?_
    refine lv_istore_n (lv' := [(2, .int 1), (1, .int (T pp - 48)), (0, .ref a)]) hx hb dX5_readNumber_28 rfl hl (by decide) rfl (fun ls hl => ?_)
    have lp29 : ∀ (nn i : Nat), i ≤ 3 → 3 < i + nn → ∀ (x1 : Int32) (w : Nat) (M1 : HM) (H : Heap) (locs : List Loc) (ls : Array Slot), Wd G (dm M s.heap.size) s.heap M1 H locs → M1 = mu M a (.inr (5, trO b len (nI w) pk itf ita)) → nmN T len (3 - i) x1 w = rw1 T len pp → w ≤ len → lv_has ls 3 [(2, .int (nI (i + 1))), (1, .int x1), (0, .ref a)] → W p l e (rd 3 0 0) s m args below meth c H locs 0 0 (MQ below (QI G M s.heap.size (fun r M' => r = (num T len pp).1 ∧ M' = mu M a (.inr (5, trO b len (nI (num T len pp).2) pk itf ita)))) args s 0 0 (dm M s.heap.size)) (F0 m 29 ls []) := by
      intro nn
      induction nn with
      | zero =>
        intro i h1 h2
        exact absurd h2 (by omega)
      | succ nn ih =>
        intro i hi hin x1 w M1 H locs ls hw hE hk hw2 hl
        refine lv_iload_n hx hb dX5_readNumber_29 rfl (lv_at hl 0 rfl) ?_
        refine lv_iconst (v := 4) hx hb dX5_readNumber_30 (by decide) ?_
        refine lv_icmp_ge (tgt := 74) hx hb dX5_readNumber_31 (by decide) (fun c31 => ?_) (fun c31 => ?_)
        · have hs : nmN T len (3 - i) x1 w = (x1, w) := by rw [show 3 - i = 0 from (by have := ix_ge (a := i + 1) (b := 4) (by omega) (by decide) c31; omega)]; rfl
          refine lv_aload_n hx hb dX5_readNumber_74 rfl (lv_at hl 2 rfl) ?_
          refine r_Vv cX hw (by rw [hE]; exact mu_at _ _ _) rfl [] (c_X5_skipSpaces l G (by rw [hE]; exact mu_at _ _ _) (by rw [hE, mu_ne _ _ (Ne.symm hab)]; exact hB) hlen hw2) wM_X5_22 mw_X5_skipSpaces ⟨Nat.le_of_ble_eq_true rfl, Nat.le_of_ble_eq_true rfl⟩ rfl rfl hl.1 (Nat.le_of_ble_eq_true rfl) dX5_readNumber_75 ⟨Nat.le_of_ble_eq_true rfl, Nat.le_of_ble_eq_true rfl⟩ (fun M1 H locs hp hw => ?_)
          have hE := muE2 hE hp
          refine lv_iload_n hx hb dX5_readNumber_78 rfl (lv_at hl 1 rfl) ?_
          exact r_iret cX hr hlocks hw ⟨by unfold num; rw [if_pos hd, ← hk, hs], by unfold num; rw [if_pos hd, ← hk, hs]; exact hE⟩ dX5_readNumber_79
        · have hlt3 : i < 3 := by have := ix_lt (a := i + 1) (b := 4) (by omega) c31; omega
          refine lv_iload_n hx hb dX5_readNumber_34 rfl (lv_at hl 1 rfl) ?_
          refine lv_if_eq (tgt := 74) hx hb dX5_readNumber_35 (by decide) (fun c35 => ?_) (fun c35 => ?_)
          · have hs : nmN T len (3 - i) x1 w = (x1, w) := nm_stop (fun h => h.1 c35)
            refine lv_aload_n hx hb dX5_readNumber_74 rfl (lv_at hl 2 rfl) ?_
            refine r_Vv cX hw (by rw [hE]; exact mu_at _ _ _) rfl [] (c_X5_skipSpaces l G (by rw [hE]; exact mu_at _ _ _) (by rw [hE, mu_ne _ _ (Ne.symm hab)]; exact hB) hlen hw2) wM_X5_22 mw_X5_skipSpaces ⟨Nat.le_of_ble_eq_true rfl, Nat.le_of_ble_eq_true rfl⟩ rfl rfl hl.1 (Nat.le_of_ble_eq_true rfl) dX5_readNumber_75 ⟨Nat.le_of_ble_eq_true rfl, Nat.le_of_ble_eq_true rfl⟩ (fun M1 H locs hp hw => ?_)
            have hE := muE2 hE hp
            refine lv_iload_n hx hb dX5_readNumber_78 rfl (lv_at hl 1 rfl) ?_
            exact r_iret cX hr hlocks hw ⟨by unfold num; rw [if_pos hd, ← hk, hs], by unfold num; rw [if_pos hd, ← hk, hs]; exact hE⟩ dX5_readNumber_79
          · refine lv_aload_n hx hb dX5_readNumber_38 rfl (lv_at hl 2 rfl) ?_
            refine r_Vi cX hw (by rw [hE]; exact mu_at _ _ _) rfl [] (c_X5_isDigitHere l G (by rw [hE]; exact mu_at _ _ _) (by rw [hE, mu_ne _ _ (Ne.symm hab)]; exact hB) hlen hw2) wM_X5_53 mw_X5_isDigitHere ⟨Nat.le_of_ble_eq_true rfl, Nat.le_of_ble_eq_true rfl⟩ rfl rfl hl.1 (Nat.le_of_ble_eq_true rfl) dX5_readNumber_39 ⟨Nat.le_of_ble_eq_true rfl, Nat.le_of_ble_eq_true rfl⟩ (fun r M1 H locs hp hw => ?_)
            obtain ⟨hr1, hq⟩ := hp
            subst hr1
            rw [hq] at hw
            refine lv_if_eq (tgt := 74) hx hb dX5_readNumber_42 (by decide) (fun c42 => ?_) (fun c42 => ?_)
            · have hs : nmN T len (3 - i) x1 w = (x1, w) := nm_stop (fun h => if01e c42 h.2)
              refine lv_aload_n hx hb dX5_readNumber_74 rfl (lv_at hl 2 rfl) ?_
              refine r_Vv cX hw (by rw [hE]; exact mu_at _ _ _) rfl [] (c_X5_skipSpaces l G (by rw [hE]; exact mu_at _ _ _) (by rw [hE, mu_ne _ _ (Ne.symm hab)]; exact hB) hlen hw2) wM_X5_22 mw_X5_skipSpaces ⟨Nat.le_of_ble_eq_true rfl, Nat.le_of_ble_eq_true rfl⟩ rfl rfl hl.1 (Nat.le_of_ble_eq_true rfl) dX5_readNumber_75 ⟨Nat.le_of_ble_eq_true rfl, Nat.le_of_ble_eq_true rfl⟩ (fun M1 H locs hp hw => ?_)
              have hE := muE2 hE hp
              refine lv_iload_n hx hb dX5_readNumber_78 rfl (lv_at hl 1 rfl) ?_
              exact r_iret cX hr hlocks hw ⟨by unfold num; rw [if_pos hd, ← hk, hs], by unfold num; rw [if_pos hd, ← hk, hs]; exact hE⟩ dX5_readNumber_79
            · have hd2 : dgB T len w = true := if01n c42
              have hl2 := (dg_lt hd2).1
              refine lv_bipush (v := 10) hx hb dX5_readNumber_45 (by decide) ?_
              refine lv_iload_n hx hb dX5_readNumber_47 rfl (lv_at hl 1 rfl) ?_
              refine lv_imul hx hb dX5_readNumber_48 ?_
              refine lv_aload_n hx hb dX5_readNumber_49 rfl (lv_at hl 2 rfl) ?_
              refine r_Vi cX hw (by rw [hE]; exact mu_at _ _ _) rfl [] (c_X5_codeHere l G (by rw [hE]; exact mu_at _ _ _) (by rw [hE, mu_ne _ _ (Ne.symm hab)]; exact hB) hlen hw2) wM_X5_56 mw_X5_codeHere ⟨Nat.le_of_ble_eq_true rfl, Nat.le_of_ble_eq_true rfl⟩ rfl rfl hl.1 (Nat.le_of_ble_eq_true rfl) dX5_readNumber_50 ⟨Nat.le_of_ble_eq_true rfl, Nat.le_of_ble_eq_true rfl⟩ (fun r M1 H locs hp hw => ?_)
              obtain ⟨hr1, hq⟩ := hp
              subst hr1
              rw [hq] at hw
              refine lv_iadd hx hb dX5_readNumber_53 ?_
              refine lv_bipush (v := 48) hx hb dX5_readNumber_54 (by decide) ?_
              refine lv_isub hx hb dX5_readNumber_56 ?_
              rw [show cd T len w = T w from if_pos hl2]
              refine lv_istore_n (lv' := [(1, .int (10 * x1 + T w - 48)), (2, .int (nI (i + 1))), (0, .ref a)]) hx hb dX5_readNumber_57 rfl hl (by decide) rfl (fun ls hl => ?_)
              refine lv_aload_n hx hb dX5_readNumber_58 rfl (lv_at hl 2 rfl) ?_
              refine lv_dup hx hb dX5_readNumber_59 rfl ?_
              refine r_get cX inX5 hw (by rw [hE]; exact mu_at _ _ _) rfl 2 (by decide) wF_X5_19 rfl dX5_readNumber_60 ?_
              refine lv_iconst (v := 1) hx hb dX5_readNumber_63 (by decide) ?_
              refine lv_iadd hx hb dX5_readNumber_64 ?_
              refine r_put (fs' := trO b len ((nI w) + 1) pk itf ita) cX inX5 tyX5 tyX5_ok nmX5 hw (by rw [hE]; exact mu_at _ _ _) rfl 2 (by decide) wF_X5_19 rfl rfl rfl rfl (Nat.le_of_ble_eq_true rfl) dX5_readNumber_65 (fun H locs hw => ?_)
              have hE := muE (e := .inr (5, trO b len ((nI w) + 1) pk itf ita)) hE
              rw [nI_1] at hw hE
              refine lv_iinc (v := (nI ((i + 1) + 1))) (lv' := [(2, .int (nI ((i + 1) + 1))), (1, .int (10 * x1 + T w - 48)), (0, .ref a)]) hx hb dX5_readNumber_68 hl (k := 1) rfl (nI_1 (i + 1)) (by decide) rfl (fun ls hl => ?_)
              refine lv_goto (tgt := 29) hx hb dX5_readNumber_71 (by decide) ?_
              exact ih (i + 1) (by omega) (by omega) (10 * x1 + T w - 48) (w + 1) _ _ _ _ hw hE (by rw [← hk, show 3 - i = (3 - (i + 1)) + 1 by omega]; show _ = (if _ then _ else _); rw [if_pos ⟨c35, hd2⟩]) hl2 (lv_sub hl [0, 1, 2] rfl)
    exact lp29 (3 + 1) 0 (by omega) (by omega) (T pp - 48) (pp + 1) _ _ _ _ hw hE rfl hlt (lv_sub hl [0, 1, 2] rfl)
  · refine lv_iconst (v := (-1)) hx hb dX5_readNumber_7 (by decide) ?_
    exact r_iret cX hr hlocks hw ⟨by rw [num_no (if01e c4)], by rw [num_no (if01e c4)]; exact hE⟩ dX5_readNumber_8

set_option maxHeartbeats 4000000 in
set_option maxRecDepth 100000 in
theorem c_X5_rewind (l : Launch) (G : gG) {M : HM} {a b : Nat} {len : Nat} {p0 pk itf ita : Int32} {T : Nat → Int32} (hM : M a = some (.inr (5, trO b len p0 pk itf ita))) (hB : M b = some (.inl (G.2 0, 120, .inl T))) (hlen : len ≤ 120) : Cv l yX5_rewind cX5_rewind 1 (rd 3 0 0) G [.ref a] M (fun M' => M' = mu M a (.inr (5, trO b len (nI (sk T len 0)) pk itf ita))) := by
  have hab : a ≠ b := fun z => by rw [z, hB] at hM; cases hM
  refine Cv.of (by decide) (Nat.le_of_ble_eq_true rfl) ?_
  intro p e s m args below meth c ls cX hw hlocks hr hnm hl
  have hx := cX.1
  have hb := cX.2.1
  have hl : lv_has ls 1 [(0, .ref a)] := hl
  have hE : M = mu M a (.inr (5, trO b len p0 pk itf ita)) := (mu_self hM).symm
  refine lv_aload_n hx hb dX5_rewind_0 rfl (lv_at hl 0 rfl) ?_
  refine lv_iconst (v := 0) hx hb dX5_rewind_1 (by decide) ?_
  refine r_put (fs' := trO b len 0 pk itf ita) cX inX5 tyX5 tyX5_ok nmX5 hw (by rw [hE]; exact mu_at _ _ _) rfl 2 (by decide) wF_X5_19 rfl rfl rfl rfl (Nat.le_of_ble_eq_true rfl) dX5_rewind_2 (fun H locs hw => ?_)
  have hE := muE (e := .inr (5, trO b len 0 pk itf ita)) hE
  rw [show (0 : Int32) = nI 0 from rfl] at hw hE
  refine lv_aload_n hx hb dX5_rewind_5 rfl (lv_at hl 0 rfl) ?_
  refine r_Vv cX hw (by rw [hE]; exact mu_at _ _ _) rfl [] (c_X5_skipSpaces l G (by rw [hE]; exact mu_at _ _ _) (by rw [hE, mu_ne _ _ (Ne.symm hab)]; exact hB) hlen (Nat.zero_le _)) wM_X5_22 mw_X5_skipSpaces ⟨Nat.le_of_ble_eq_true rfl, Nat.le_of_ble_eq_true rfl⟩ rfl rfl hl.1 (Nat.le_of_ble_eq_true rfl) dX5_rewind_6 ⟨Nat.le_of_ble_eq_true rfl, Nat.le_of_ble_eq_true rfl⟩ (fun M1 H locs hp hw => ?_)
  have hE := muE2 hE hp
  exact r_vret cX hr hlocks hw hE dX5_rewind_9
