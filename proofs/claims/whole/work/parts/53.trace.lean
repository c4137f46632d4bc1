def rdI (o : Option (Option Int32 × Int32)) (r pk itf ita : Int32) : Prop := match o with
  | none => r = 0
  | some (some k, s) => r = 1 ∧ pk = 1 ∧ itf = k ∧ ita = s
  | some (none, t) => r = 1 ∧ pk = 0 ∧ ita = t
theorem rd_t {o : Option (Option Int32 × Int32)} {pk itf ita : Int32} (h : rdI o 1 pk itf ita) (h0 : pk = 0) : o = some (none, ita) := by
  rcases o with _ | ⟨_ | k, s⟩
  · exact absurd (show (1 : Int32) = 0 from h) (by decide)
  · obtain ⟨-, -, h3⟩ := h
    rw [h3]
  · obtain ⟨-, h2, -⟩ := h
    rw [h2] at h0
    exact absurd h0 (by decide)
theorem rd_p {o : Option (Option Int32 × Int32)} {pk itf ita : Int32} (h : rdI o 1 pk itf ita) (h0 : ¬ pk = 0) : o = some (some itf, ita) := by
  rcases o with _ | ⟨_ | k, s⟩
  · exact absurd (show (1 : Int32) = 0 from h) (by decide)
  · obtain ⟨-, h2, -⟩ := h
    exact absurd h2 h0
  · obtain ⟨-, -, h3, h4⟩ := h
    rw [h3, h4]
theorem rd_0 {o : Option (Option Int32 × Int32)} {r pk itf ita : Int32} (h : rdI o r pk itf ita) : (o = none ∧ r = 0) ∨ (o ≠ none ∧ r = 1) := by
  rcases o with _ | ⟨_ | k, s⟩
  · exact Or.inl ⟨rfl, h⟩
  · exact Or.inr ⟨fun q => (by cases q), h.1⟩
  · exact Or.inr ⟨fun q => (by cases q), h.1⟩
theorem num_n {T : Nat → Int32} {n p : Nat} (h : p ≤ n) : (num T n p).2 ≤ n := by
  by_cases q : dgB T n p = true
  · obtain ⟨w, -, -, -, a, -⟩ := num_ok q
    exact a
  · rw [num_no q]
    exact h
theorem rI2_n {T : Nat → Int32} {n p : Nat} {o : Option Int32} (h : p ≤ n) : (rI2 T n p o).2 ≤ n := by
  unfold rI2
  split
  · exact num_n h
  · split
    · rename_i q
      exact sk_n (cd_lt (by decide) q)
    · exact num_n h
theorem rI_n {T : Nat → Int32} {n p : Nat} (h : p ≤ n) : (rI T n p).2 ≤ n := by
  unfold rI
  split
  · rename_i q
    have h1 : sk T n (p + 1) ≤ n := sk_n (cd_lt (by decide) q)
    split
    · exact num_n h1
    · split
      · rename_i q3
        exact rI2_n (sk_n (cd_lt (by decide) q3))
      · exact num_n h1
  · split
    · rename_i q
      exact rI2_n (sk_n (cd_lt (by decide) q))
    · exact h
theorem uF_id (F : Nat → Nat → Int32) (j : Nat) : uF F j (F j) = F := by
  funext i
  by_cases h : i = j
  · rw [h, uF_at]
  · exact uF_ne _ _ h
/-- the reading loop of errorPosition, after i rounds -/
def EP (T : Nat → Int32) (n i : Nat) (x : Int32) (w : Nat) : Prop := (x = 1 ∧ w = ps T n i ∧ ((n ≤ w ∧ fnd T n 120 0 = (i, true)) ∨ (w < n ∧ fnd T n 120 0 = fnd T n (120 - i) i))) ∨ (x = 0 ∧ ∃ K, fnd T n 120 0 = (K, false) ∧ w = (rI T n (ps T n K)).2)
theorem EP.end {T : Nat → Int32} {n : Nat} (h : n ≤ sk T n 0) : EP T n 0 0 (sk T n 0) := by
  have e : rI T n (ps T n 0) = (none, ps T n 0) := rI_end h
  refine Or.inr ⟨rfl, 0, ?_, by rw [e]; rfl⟩
  show (if _ then _ else _) = _
  rw [if_pos (by rw [e])]
theorem EP.go {T : Nat → Int32} {n : Nat} (h : ¬ n ≤ sk T n 0) : EP T n 0 1 (sk T n 0) := Or.inl ⟨rfl, rfl, Or.inr ⟨Nat.not_le.mp h, rfl⟩⟩
theorem EP.step {T : Nat → Int32} {n i w : Nat} {x r pk itf ita : Int32} (h : EP T n i x w) (hx : ¬ x = 0) (hi : i < 120) (hw : ¬ n ≤ w) (hr : rdI (rI T n w).1 r pk itf ita) : EP T n (i + 1) r (rI T n w).2 := by
  rcases h with ⟨-, rfl, h | ⟨-, h⟩⟩ | ⟨h, -⟩
  · exact absurd h.1 hw
  · have hs : fnd T n 120 0 = if (rI T n (ps T n i)).1 = none then (i, false) else if n ≤ ps T n (i + 1) then (i + 1, true) else fnd T n (120 - (i + 1)) (i + 1) := by
      rw [h, show 120 - i = (120 - (i + 1)) + 1 by omega]
      rfl
    rcases rd_0 hr with ⟨h0, r0⟩ | ⟨h0, r0⟩
    · rw [if_pos h0] at hs
      exact Or.inr ⟨r0, i, hs, rfl⟩
    · rw [if_neg h0] at hs
      refine Or.inl ⟨r0, rfl, ?_⟩
      by_cases q : n ≤ ps T n (i + 1)
      · rw [if_pos q] at hs
        exact Or.inl ⟨q, hs⟩
      · rw [if_neg q] at hs
        exact Or.inr ⟨Nat.not_le.mp q, hs⟩
  · exact absurd h hx
theorem EP.t {T : Nat → Int32} {n i w : Nat} {x : Int32} (h : EP T n i x w) (hx : ¬ x = 0) (he : n ≤ w ∨ i = 120) : (fnd T n 120 0).2 = true := by
  rcases h with ⟨-, rfl, ⟨-, h⟩ | ⟨h1, h⟩⟩ | ⟨h, -⟩
  · rw [h]
  · rcases he with he | rfl
    · omega
    · rw [h]
      rfl
  · exact absurd h hx
theorem EP.f {T : Nat → Int32} {n i w : Nat} {x : Int32} (h : EP T n i x w) (hx : x = 0) : (fnd T n 120 0).2 = false ∧ w = (rI T n (ps T n (fnd T n 120 0).1)).2 := by
  rcases h with ⟨h, -⟩ | ⟨-, K, h1, h2⟩
  · rw [h] at hx
    exact absurd hx (by decide)
  · rw [h1]
    exact ⟨rfl, h2⟩
set_option maxHeartbeats 4000000 in
set_option maxRecDepth 100000 in
theorem c_X5_readItem (l : Launch) (G : gG) {M : HM} {a b : Nat} {len pp : Nat} {pk itf ita : Int32} {T : Nat → Int32} (hM : M a = some (.inr (5, trO b len (nI pp) pk itf ita))) (hB : M b = some (.inl (G.2 0, 120, .inl T))) (hlen : len ≤ 120) (hpp : pp ≤ len) : Ci l yX5_readItem cX5_readItem 1 .boolean (rd 4 0 0) G [.ref a] M (fun r M' => ∃ pk' itf' ita' : Int32, (pk' = 0 ∨ pk' = 1) ∧ M' = mu M a (.inr (5, trO b len (nI (rI T len pp).2) pk' itf' ita')) ∧ rdI (rI T len pp).1 r pk' itf' ita') := by
  have hab : a ≠ b := fun z => by rw [z, hB] at hM; cases hM
  refine Ci.of (by decide) (Nat.le_of_ble_eq_true rfl) ?_
  intro p e s m args below meth c ls cX hw hlocks hr hl
  have hx := cX.1
  have hb := cX.2.1
  have hl : lv_has ls 1 [(0, .ref a)] := hl
  have hE : M = mu M a (.inr (5, trO b len (nI pp) pk itf ita)) := (mu_self hM).symm
  refine lv_aload_n hx hb dX5_readItem_0 rfl (lv_at hl 0 rfl) ?_
  refine lv_aload_n hx hb dX5_readItem_1 rfl (lv_at hl 0 rfl) ?_
  refine lv_bipush (v := 102) hx hb dX5_readItem_2 (by decide) ?_
  refine r_Vi cX hw (by rw [hE]; exact mu_at _ _ _) rfl [.int 102] (c_X5_accept l G (by rw [hE]; exact mu_at _ _ _) (by rw [hE, mu_ne _ _ (Ne.symm hab)]; exact hB) hlen hpp 102 (by decide)) wM_X5_35 mw_X5_accept ⟨Nat.le_of_ble_eq_true rfl, Nat.le_of_ble_eq_true rfl⟩ rfl rfl hl.1 (Nat.le_of_ble_eq_true rfl) dX5_readItem_4 ⟨Nat.le_of_ble_eq_true rfl, Nat.le_of_ble_eq_true rfl⟩ (fun r M1 H locs hp hw => ?_)
  obtain ⟨hr1, hp⟩ := hp
  have hE := muE2 hE hp
  by_cases a4 : cd T len pp = 102
  · rw [if_pos a4] at hr1 hE
    subst hr1
    refine r_put (fs' := trO b len (nI (sk T len (pp + 1))) 1 itf ita) cX inX5 tyX5 tyX5_ok nmX5 hw (by rw [hE]; exact mu_at _ _ _) rfl 3 (by decide) wF_X5_39 rfl rfl rfl rfl (Nat.le_of_ble_eq_true rfl) dX5_readItem_7 (fun H locs hw => ?_)
    have hE := muE (e := .inr (5, trO b len (nI (sk T len (pp + 1))) 1 itf ita)) hE
    refine lv_aload_n hx hb dX5_readItem_10 rfl (lv_at hl 0 rfl) ?_
    refine r_get cX inX5 hw (by rw [hE]; exact mu_at _ _ _) rfl 3 (by decide) wF_X5_39 rfl dX5_readItem_11 ?_
    refine lv_if_eq (tgt := 44) hx hb dX5_readItem_14 (by decide) (fun h => absurd h (by decide)) (fun _ => ?_)
    refine lv_aload_n hx hb dX5_readItem_17 rfl (lv_at hl 0 rfl) ?_
    refine lv_aload_n hx hb dX5_readItem_18 rfl (lv_at hl 0 rfl) ?_
    refine r_Vi cX hw (by rw [hE]; exact mu_at _ _ _) rfl [] (c_X5_readNumber l G (by rw [hE]; exact mu_at _ _ _) (by rw [hE, mu_ne _ _ (Ne.symm hab)]; exact hB) hlen (sk_n (cd_lt (by decide) a4))) wM_X5_43 mw_X5_readNumber ⟨Nat.le_of_ble_eq_true rfl, Nat.le_of_ble_eq_true rfl⟩ rfl rfl hl.1 (Nat.le_of_ble_eq_true rfl) dX5_readItem_19 ⟨Nat.le_of_ble_eq_true rfl, Nat.le_of_ble_eq_true rfl⟩ (fun r M1 H locs hp hw => ?_)
    obtain ⟨hr1, hp⟩ := hp
    subst hr1
    have hE := muE2 hE hp
    refine r_put (fs' := trO b len (nI (num T len (sk T len (pp + 1))).2) 1 ((num T len (sk T len (pp + 1))).1) ita) cX inX5 tyX5 tyX5_ok nmX5 hw (by rw [hE]; exact mu_at _ _ _) rfl 4 (by decide) wF_X5_47 rfl rfl rfl rfl (Nat.le_of_ble_eq_true rfl) dX5_readItem_22 (fun H locs hw => ?_)
    have hE := muE (e := .inr (5, trO b len (nI (num T len (sk T len (pp + 1))).2) 1 ((num T len (sk T len (pp + 1))).1) ita)) hE
    refine lv_aload_n hx hb dX5_readItem_25 rfl (lv_at hl 0 rfl) ?_
    refine r_get cX inX5 hw (by rw [hE]; exact mu_at _ _ _) rfl 4 (by decide) wF_X5_47 rfl dX5_readItem_26 ?_
    refine lv_iconst (v := (-1)) hx hb dX5_readItem_29 (by decide) ?_
    refine lv_icmp_eq (tgt := 42) hx hb dX5_readItem_30 (by decide) (fun c30 => ?_) (fun c30 => ?_)
    · refine lv_iconst (v := 0) hx hb dX5_readItem_42 (by decide) ?_
      have hv : rI T len pp = (none, (num T len (sk T len (pp + 1))).2) := by unfold rI; rw [if_pos a4, if_pos c30]
      exact r_zret cX hr hlocks rfl hw ⟨1, (num T len (sk T len (pp + 1))).1, ita, Or.inr rfl, by rw [hv]; exact hE, by rw [hv]; exact rfl⟩ dX5_readItem_43
    · refine lv_aload_n hx hb dX5_readItem_33 rfl (lv_at hl 0 rfl) ?_
      refine lv_bipush (v := 44) hx hb dX5_readItem_34 (by decide) ?_
      refine r_Vi cX hw (by rw [hE]; exact mu_at _ _ _) rfl [.int 44] (c_X5_accept l G (by rw [hE]; exact mu_at _ _ _) (by rw [hE, mu_ne _ _ (Ne.symm hab)]; exact hB) hlen (num_n (sk_n (cd_lt (by decide) a4))) 44 (by decide)) wM_X5_35 mw_X5_accept ⟨Nat.le_of_ble_eq_true rfl, Nat.le_of_ble_eq_true rfl⟩ rfl rfl hl.1 (Nat.le_of_ble_eq_true rfl) dX5_readItem_36 ⟨Nat.le_of_ble_eq_true rfl, Nat.le_of_ble_eq_true rfl⟩ (fun r M1 H locs hp hw => ?_)
      obtain ⟨hr1, hp⟩ := hp
      have hE := muE2 hE hp
      by_cases a36 : cd T len ((num T len (sk T len (pp + 1))).2) = 44
      · rw [if_pos a36] at hr1 hE
        subst hr1
        refine lv_if_ne (tgt := 55) hx hb dX5_readItem_39 (by decide) (fun _ => ?_) (fun h => absurd h (by decide))
        refine lv_aload_n hx hb dX5_readItem_55 rfl (lv_at hl 0 rfl) ?_
        refine lv_aload_n hx hb dX5_readItem_56 rfl (lv_at hl 0 rfl) ?_
        refine r_Vi cX hw (by rw [hE]; exact mu_at _ _ _) rfl [] (c_X5_readNumber l G (by rw [hE]; exact mu_at _ _ _) (by rw [hE, mu_ne _ _ (Ne.symm hab)]; exact hB) hlen (sk_n (cd_lt (by decide) a36))) wM_X5_43 mw_X5_readNumber ⟨Nat.le_of_ble_eq_true rfl, Nat.le_of_ble_eq_true rfl⟩ rfl rfl hl.1 (Nat.le_of_ble_eq_true rfl) dX5_readItem_57 ⟨Nat.le_of_ble_eq_true rfl, Nat.le_of_ble_eq_true rfl⟩ (fun r M1 H locs hp hw => ?_)
        obtain ⟨hr1, hp⟩ := hp
        subst hr1
        have hE := muE2 hE hp
        refine r_put (fs' := trO b len (nI (num T len (sk T len (((num T len (sk T len (pp + 1))).2) + 1))).2) 1 ((num T len (sk T len (pp + 1))).1) ((num T len (sk T len (((num T len (sk T len (pp + 1))).2) + 1))).1)) cX inX5 tyX5 tyX5_ok nmX5 hw (by rw [hE]; exact mu_at _ _ _) rfl 5 (by decide) wF_X5_50 rfl rfl rfl rfl (Nat.le_of_ble_eq_true rfl) dX5_readItem_60 (fun H locs hw => ?_)
        have hE := muE (e := .inr (5, trO b len (nI (num T len (sk T len (((num T len (sk T len (pp + 1))).2) + 1))).2) 1 ((num T len (sk T len (pp + 1))).1) ((num T len (sk T len (((num T len (sk T len (pp + 1))).2) + 1))).1))) hE
        refine lv_aload_n hx hb dX5_readItem_63 rfl (lv_at hl 0 rfl) ?_
        refine r_get cX inX5 hw (by rw [hE]; exact mu_at _ _ _) rfl 5 (by decide) wF_X5_50 rfl dX5_readItem_64 ?_
        refine lv_iconst (v := (-1)) hx hb dX5_readItem_67 (by decide) ?_
        refine lv_icmp_eq (tgt := 84) hx hb dX5_readItem_68 (by decide) (fun c68 => ?_) (fun c68 => ?_)
        · refine lv_iconst (v := 0) hx hb dX5_readItem_84 (by decide) ?_
          have hv : rI T len pp = (none, (num T len (sk T len (((num T len (sk T len (pp + 1))).2) + 1))).2) := by unfold rI; rw [if_pos a4, if_neg c30, if_pos a36]; unfold rI2; rw [if_pos c68]
          exact r_zret cX hr hlocks rfl hw ⟨1, (num T len (sk T len (pp + 1))).1, (num T len (sk T len (((num T len (sk T len (pp + 1))).2) + 1))).1, Or.inr rfl, by rw [hv]; exact hE, by rw [hv]; exact rfl⟩ dX5_readItem_85
        · refine lv_aload_n hx hb dX5_readItem_71 rfl (lv_at hl 0 rfl) ?_
          refine lv_bipush (v := 59) hx hb dX5_readItem_72 (by decide) ?_
          refine r_Vi cX hw (by rw [hE]; exact mu_at _ _ _) rfl [.int 59] (c_X5_accept l G (by rw [hE]; exact mu_at _ _ _) (by rw [hE, mu_ne _ _ (Ne.symm hab)]; exact hB) hlen (num_n (sk_n (cd_lt (by decide) a36))) 59 (by decide)) wM_X5_35 mw_X5_accept ⟨Nat.le_of_ble_eq_true rfl, Nat.le_of_ble_eq_true rfl⟩ rfl rfl hl.1 (Nat.le_of_ble_eq_true rfl) dX5_readItem_74 ⟨Nat.le_of_ble_eq_true rfl, Nat.le_of_ble_eq_true rfl⟩ (fun r M1 H locs hp hw => ?_)
          obtain ⟨hr1, hp⟩ := hp
          have hE := muE2 hE hp
          by_cases a74 : cd T len ((num T len (sk T len (((num T len (sk T len (pp + 1))).2) + 1))).2) = 59
          · rw [if_pos a74] at hr1 hE
            subst hr1
            refine lv_if_eq (tgt := 84) hx hb dX5_readItem_77 (by decide) (fun h => absurd h (by decide)) (fun _ => ?_)
            refine lv_iconst (v := 1) hx hb dX5_readItem_80 (by decide) ?_
            refine lv_goto (tgt := 85) hx hb dX5_readItem_81 (by decide) ?_
            have hv : rI T len pp = (some (some ((num T len (sk T len (pp + 1))).1), (num T len (sk T len (((num T len (sk T len (pp + 1))).2) + 1))).1), (sk T len (((num T len (sk T len (((num T len (sk T len (pp + 1))).2) + 1))).2) + 1))) := by unfold rI; rw [if_pos a4, if_neg c30, if_pos a36]; unfold rI2; rw [if_neg c68, if_pos a74]
            exact r_zret cX hr hlocks rfl hw ⟨1, (num T len (sk T len (pp + 1))).1, (num T len (sk T len (((num T len (sk T len (pp + 1))).2) + 1))).1, Or.inr rfl, by rw [hv]; exact hE, by rw [hv]; exact ⟨rfl, rfl, rfl, rfl⟩⟩ dX5_readItem_85
          · rw [if_neg a74] at hr1 hE
            subst hr1
            refine lv_if_eq (tgt := 84) hx hb dX5_readItem_77 (by decide) (fun _ => ?_) (fun h => absurd h (by decide))
            refine lv_iconst (v := 0) hx hb dX5_readItem_84 (by decide) ?_
            have hv : rI T len pp = (none, (num T len (sk T len (((num T len (sk T len (pp + 1))).2) + 1))).2) := by unfold rI; rw [if_pos a4, if_neg c30, if_pos a36]; unfold rI2; rw [if_neg c68, if_neg a74]
            exact r_zret cX hr hlocks rfl hw ⟨1, (num T len (sk T len (pp + 1))).1, (num T len (sk T len (((num T len (sk T len (pp + 1))).2) + 1))).1, Or.inr rfl, by rw [hv]; exact hE, by rw [hv]; exact rfl⟩ dX5_readItem_85
      · rw [if_neg a36] at hr1 hE
        subst hr1
        refine lv_if_ne (tgt := 55) hx hb dX5_readItem_39 (by decide) (fun h => absurd h (by decide)) (fun _ => ?_)
        refine lv_iconst (v := 0) hx hb dX5_readItem_42 (by decide) ?_
        have hv : rI T len pp = (none, (num T len (sk T len (pp + 1))).2) := by unfold rI; rw [if_pos a4, if_neg c30, if_neg a36]
        exact r_zret cX hr hlocks rfl hw ⟨1, (num T len (sk T len (pp + 1))).1, ita, Or.inr rfl, by rw [hv]; exact hE, by rw [hv]; exact rfl⟩ dX5_readItem_43
  · rw [if_neg a4] at hr1 hE
    subst hr1
    refine r_put (fs' := trO b len (nI pp) 0 itf ita) cX inX5 tyX5 tyX5_ok nmX5 hw (by rw [hE]; exact mu_at _ _ _) rfl 3 (by decide) wF_X5_39 rfl rfl rfl rfl (Nat.le_of_ble_eq_true rfl) dX5_readItem_7 (fun H locs hw => ?_)
    have hE := muE (e := .inr (5, trO b len (nI pp) 0 itf ita)) hE
    refine lv_aload_n hx hb dX5_readItem_10 rfl (lv_at hl 0 rfl) ?_
    refine r_get cX inX5 hw (by rw [hE]; exact mu_at _ _ _) rfl 3 (by decide) wF_X5_39 rfl dX5_readItem_11 ?_
    refine lv_if_eq (tgt := 44) hx hb dX5_readItem_14 (by decide) (fun _ => ?_) (fun h => absurd h (by decide))
    refine lv_aload_n hx hb dX5_readItem_44 rfl (lv_at hl 0 rfl) ?_
    refine lv_bipush (v := 116) hx hb dX5_readItem_45 (by decide) ?_
    refine r_Vi cX hw (by rw [hE]; exact mu_at _ _ _) rfl [.int 116] (c_X5_accept l G (by rw [hE]; exact mu_at _ _ _) (by rw [hE, mu_ne _ _ (Ne.symm hab)]; exact hB) hlen hpp 116 (by decide)) wM_X5_35 mw_X5_accept ⟨Nat.le_of_ble_eq_true rfl, Nat.le_of_ble_eq_true rfl⟩ rfl rfl hl.1 (Nat.le_of_ble_eq_true rfl) dX5_readItem_47 ⟨Nat.le_of_ble_eq_true rfl, Nat.le_of_ble_eq_true rfl⟩ (fun r M1 H locs hp hw => ?_)
    obtain ⟨hr1, hp⟩ := hp
    have hE := muE2 hE hp
    by_cases a47 : cd T len pp = 116
    · rw [if_pos a47] at hr1 hE
      subst hr1
      refine lv_if_ne (tgt := 55) hx hb dX5_readItem_50 (by decide) (fun _ => ?_) (fun h => absurd h (by decide))
      refine lv_aload_n hx hb dX5_readItem_55 rfl (lv_at hl 0 rfl) ?_
      refine lv_aload_n hx hb dX5_readItem_56 rfl (lv_at hl 0 rfl) ?_
      refine r_Vi cX hw (by rw [hE]; exact mu_at _ _ _) rfl [] (c_X5_readNumber l G (by rw [hE]; exact mu_at _ _ _) (by rw [hE, mu_ne _ _ (Ne.symm hab)]; exact hB) hlen (sk_n (cd_lt (by decide) a47))) wM_X5_43 mw_X5_readNumber ⟨Nat.le_of_ble_eq_true rfl, Nat.le_of_ble_eq_true rfl⟩ rfl rfl hl.1 (Nat.le_of_ble_eq_true rfl) dX5_readItem_57 ⟨Nat.le_of_ble_eq_true rfl, Nat.le_of_ble_eq_true rfl⟩ (fun r M1 H locs hp hw => ?_)
      obtain ⟨hr1, hp⟩ := hp
      subst hr1
      have hE := muE2 hE hp
      refine r_put (fs' := trO b len (nI (num T len (sk T len (pp + 1))).2) 0 itf ((num T len (sk T len (pp + 1))).1)) cX inX5 tyX5 tyX5_ok nmX5 hw (by rw [hE]; exact mu_at _ _ _) rfl 5 (by decide) wF_X5_50 rfl rfl rfl rfl (Nat.le_of_ble_eq_true rfl) dX5_readItem_60 (fun H locs hw => ?_)
      have hE := muE (e := .inr (5, trO b len (nI (num T len (sk T len (pp + 1))).2) 0 itf ((num T len (sk T len (pp + 1))).1))) hE
      refine lv_aload_n hx hb dX5_readItem_63 rfl (lv_at hl 0 rfl) ?_
      refine r_get cX inX5 hw (by rw [hE]; exact mu_at _ _ _) rfl 5 (by decide) wF_X5_50 rfl dX5_readItem_64 ?_
      refine lv_iconst (v := (-1)) hx hb dX5_readItem_67 (by decide) ?_
      refine lv_icmp_eq (tgt := 84) hx hb dX5_readItem_68 (by decide) (fun c68 => ?_) (fun c68 => ?_)
      · refine lv_iconst (v := 0) hx hb dX5_readItem_84 (by decide) ?_
        have hv : rI T len pp = (none, (num T len (sk T len (pp + 1))).2) := by unfold rI; rw [if_neg a4, if_pos a47]; unfold rI2; rw [if_pos c68]
        exact r_zret cX hr hlocks rfl hw ⟨0, itf, (num T len (sk T len (pp + 1))).1, Or.inl rfl, by rw [hv]; exact hE, by rw [hv]; exact rfl⟩ dX5_readItem_85
      · refine lv_aload_n hx hb dX5_readItem_71 rfl (lv_at hl 0 rfl) ?_
        refine lv_bipush (v := 59) hx hb dX5_readItem_72 (by decide) ?_
        refine r_Vi cX hw (by rw [hE]; exact mu_at _ _ _) rfl [.int 59] (c_X5_accept l G (by rw [hE]; exact mu_at _ _ _) (by rw [hE, mu_ne _ _ (Ne.symm hab)]; exact hB) hlen (num_n (sk_n (cd_lt (by decide) a47))) 59 (by decide)) wM_X5_35 mw_X5_accept ⟨Nat.le_of_ble_eq_true rfl, Nat.le_of_ble_eq_true rfl⟩ rfl rfl hl.1 (Nat.le_of_ble_eq_true rfl) dX5_readItem_74 ⟨Nat.le_of_ble_eq_true rfl, Nat.le_of_ble_eq_true rfl⟩ (fun r M1 H locs hp hw => ?_)
        obtain ⟨hr1, hp⟩ := hp
        have hE := muE2 hE hp
        by_cases a74 : cd T len ((num T len (sk T len (pp + 1))).2) = 59
        · rw [if_pos a74] at hr1 hE
          subst hr1
          refine lv_if_eq (tgt := 84) hx hb dX5_readItem_77 (by decide) (fun h => absurd h (by decide)) (fun _ => ?_)
          refine lv_iconst (v := 1) hx hb dX5_readItem_80 (by decide) ?_
          refine lv_goto (tgt := 85) hx hb dX5_readItem_81 (by decide) ?_
          have hv : rI T len pp = (some (none, (num T len (sk T len (pp + 1))).1), (sk T len (((num T len (sk T len (pp + 1))).2) + 1))) := by unfold rI; rw [if_neg a4, if_pos a47]; unfold rI2; rw [if_neg c68, if_pos a74]
          exact r_zret cX hr hlocks rfl hw ⟨0, itf, (num T len (sk T len (pp + 1))).1, Or.inl rfl, by rw [hv]; exact hE, by rw [hv]; exact ⟨rfl, rfl, rfl⟩⟩ dX5_readItem_85
        · rw [if_neg a74] at hr1 hE
          subst hr1
          refine lv_if_eq (tgt := 84) hx hb dX5_readItem_77 (by decide) (fun _ => ?_) (fun h => absurd h (by decide))
          refine lv_iconst (v := 0) hx hb dX5_readItem_84 (by decide) ?_
          have hv : rI T len pp = (none, (num T len (sk T len (pp + 1))).2) := by unfold rI; rw [if_neg a4, if_pos a47]; unfold rI2; rw [if_neg c68, if_neg a74]
          exact r_zret cX hr hlocks rfl hw ⟨0, itf, (num T len (sk T len (pp + 1))).1, Or.inl rfl, by rw [hv]; exact hE, by rw [hv]; exact rfl⟩ dX5_readItem_85
    · rw [if_neg a47] at hr1 hE
      subst hr1
      refine lv_if_ne (tgt := 55) hx hb dX5_readItem_50 (by decide) (fun h => absurd h (by decide)) (fun _ => ?_)
      refine lv_iconst (v := 0) hx hb dX5_readItem_53 (by decide) ?_
      have hv : rI T len pp = (none, pp) := by unfold rI; rw [if_neg a4, if_neg a47]
      exact r_zret cX hr hlocks rfl hw ⟨0, itf, ita, Or.inl rfl, by rw [hv]; exact hE, by rw [hv]; exact rfl⟩ dX5_readItem_54

set_option maxHeartbeats 4000000 in
set_option maxRecDepth 100000 in
theorem c_X5_errorPosition (l : Launch) (G : gG) {M : HM} {a b : Nat} {len : Nat} {p0 pk itf ita : Int32} {T : Nat → Int32} (hM : M a = some (.inr (5, trO b len p0 pk itf ita))) (hB : M b = some (.inl (G.2 0, 120, .inl T))) (hlen : len ≤ 120) (hpk : pk = 0 ∨ pk = 1) : Ci l yX5_errorPosition cX5_errorPosition 3 .int (rd 5 0 0) G [.ref a] M (fun r M' => (∃ x0 x1 x2 x3 : Int32, (x1 = 0 ∨ x1 = 1) ∧ M' = mu M a (.inr (5, trO b len x0 x1 x2 x3))) ∧ r = (if (fnd T len 120 0).2 = true then -1 else nI (rI T len (ps T len (fnd T len 120 0).1)).2)) := by
  have hab : a ≠ b := fun z => by rw [z, hB] at hM; cases hM
  refine Ci.of (by decide) (Nat.le_of_ble_eq_true rfl) ?_
  intro p e s m args below meth c ls cX hw hlocks hr hl
  have hx := cX.1
  have hb := cX.2.1
  have hl : lv_has ls 3 [(0, .ref a)] := hl
  have hE : M = mu M a (.inr (5, trO b len p0 pk itf ita)) := (mu_self hM).symm
  refine lv_aload_n hx hb dX5_errorPosition_0 rfl (lv_at hl 0 rfl) ?_
  refine r_Vv cX hw (by rw [hE]; exact mu_at _ _ _) rfl [] (c_X5_rewind l G (by rw [hE]; exact mu_at _ _ _) (by rw [hE, mu_ne _ _ (Ne.symm hab)]; exact hB) hlen) wM_X5_25 mw_X5_rewind ⟨Nat.le_of_ble_eq_true rfl, Nat.le_of_ble_eq_true rfl⟩ rfl rfl hl.1 (Nat.le_of_ble_eq_true rfl) dX5_errorPosition_1 ⟨Nat.le_of_ble_eq_true rfl, Nat.le_of_ble_eq_true rfl⟩ (fun M1 H locs hp hw => ?_)
  have hE := muE2 hE hp
  refine lv_aload_n hx hb dX5_errorPosition_4 rfl (lv_at hl 0 rfl) ?_
  refine r_Vi cX hw (by rw [hE]; exact mu_at _ _ _) rfl [] (c_X5_isAtEnd l G (by rw [hE]; exact mu_at _ _ _) (by rw [hE, mu_ne _ _ (Ne.symm hab)]; exact hB) hlen (sk_n (Nat.zero_le _))) wM_X5_28 mw_X5_isAtEnd ⟨Nat.le_of_ble_eq_true rfl, Nat.le_of_ble_eq_true rfl⟩ rfl rfl hl.1 (Nat.le_of_ble_eq_true rfl) dX5_errorPosition_5 ⟨Nat.le_of_ble_eq_true rfl, Nat.le_of_ble_eq_true rfl⟩ (fun r M1 H locs hp hw => ?_)
  obtain ⟨hr1, hq⟩ := hp
  subst hr1
  rw [hq] at hw
  refine lv_if_ne (tgt := 15) hx hb dX5_errorPosition_8 (by decide) (fun c8 => ?_) (fun c8 => ?_)
  · have hk0 : EP T len 0 0 (sk T len 0) := EP.end (if01n c8)
    refine lv_iconst (v := 0) hx hb dX5_errorPosition_15 (by decide) ?_
    refine lv_istore_n (lv' := [(1, .int 0), (0, .ref a)]) hx hb dX5_errorPosition_16 rfl hl (by decide) rfl (fun ls hl => ?_)
    refine lv_iconst (v := 0) hx hb dX5_errorPosition_17 (by decide) ?_
    refine lv_istore_n (lv' := [(2, .int 0), (1, .int 0), (0, .ref a)]) hx hb dX5_errorPosition_18 rfl hl (by decide) rfl (fun ls hl => ?_)
    have lp19 : ∀ (nn i : Nat), i ≤ 120 → 120 < i + nn → ∀ (x1 : Int32) (w : Nat) (q1 : Int32) (q2 : Int32) (q3 : Int32) (M1 : HM) (H : Heap) (locs : List Loc) (ls : Array Slot), Wd G (dm M s.heap.size) s.heap M1 H locs → M1 = mu M a (.inr (5, trO b len (nI w) q1 q2 q3)) → EP T len i x1 w → w ≤ len → (q1 = 0 ∨ q1 = 1) → lv_has ls 3 [(2, .int (nI i)), (1, .int x1), (0, .ref a)] → W p l e (rd 5 0 0) s m args below meth c H locs 0 0 (MQ below (QI G M s.heap.size (fun r M' => (∃ x0 x1 x2 x3 : Int32, (x1 = 0 ∨ x1 = 1) ∧ M' = mu M a (.inr (5, trO b len x0 x1 x2 x3))) ∧ r = (if (fnd T len 120 0).2 = true then -1 else nI (rI T len (ps T len (fnd T len 120 0).1)).2))) args s 0 0 (dm M s.heap.size)) (F0 m 19 ls []) := by
      intro nn
      induction nn with
      | zero =>
        intro i h1 h2
        exact absurd h2 (by omega)
      | succ nn ih =>
        intro i hi hin x1 w q1 q2 q3 M1 H locs ls hw hE hk hwn hqq hl
        refine lv_iload_n hx hb dX5_errorPosition_19 rfl (lv_at hl 0 rfl) ?_
        refine lv_bipush (v := 120) hx hb dX5_errorPosition_20 (by decide) ?_
        refine lv_icmp_ge (tgt := 47) hx hb dX5_errorPosition_22 (by decide) (fun c22 => ?_) (fun c22 => ?_)
        · have hx1 : ¬ x1 = 0 → len ≤ w ∨ i = 120 := fun _ => Or.inr (Nat.le_antisymm hi (ix_ge (b := 120) (by omega) (by decide) c22))
          refine lv_iload_n hx hb dX5_errorPosition_47 rfl (lv_at hl 1 rfl) ?_
          refine lv_if_eq (tgt := 55) hx hb dX5_errorPosition_48 (by decide) (fun c48 => ?_) (fun c48 => ?_)
          · refine lv_aload_n hx hb dX5_errorPosition_55 rfl (lv_at hl 2 rfl) ?_
            refine r_get cX inX5 hw (by rw [hE]; exact mu_at _ _ _) rfl 2 (by decide) wF_X5_19 rfl dX5_errorPosition_56 ?_
            exact r_iret cX hr hlocks hw ⟨⟨_, q1, q2, q3, hqq, hE⟩, by obtain ⟨z1, z2⟩ := hk.f c48; rw [if_neg (by rw [z1]; decide), ← z2]⟩ dX5_errorPosition_59
          · refine lv_iconst (v := (-1)) hx hb dX5_errorPosition_51 (by decide) ?_
            refine lv_goto (tgt := 59) hx hb dX5_errorPosition_52 (by decide) ?_
            exact r_iret cX hr hlocks hw ⟨⟨_, q1, q2, q3, hqq, hE⟩, (if_pos (hk.t c48 (hx1 c48))).symm⟩ dX5_errorPosition_59
        · have hlt : i < 120 := ix_lt (b := 120) (by omega) c22
          refine lv_iload_n hx hb dX5_errorPosition_25 rfl (lv_at hl 1 rfl) ?_
          refine lv_if_eq (tgt := 47) hx hb dX5_errorPosition_26 (by decide) (fun c26 => ?_) (fun c26 => ?_)
          · have hx1 : ¬ x1 = 0 → len ≤ w ∨ i = 120 := fun h => absurd c26 h
            refine lv_iload_n hx hb dX5_errorPosition_47 rfl (lv_at hl 1 rfl) ?_
            refine lv_if_eq (tgt := 55) hx hb dX5_errorPosition_48 (by decide) (fun c48 => ?_) (fun c48 => ?_)
            · refine lv_aload_n hx hb dX5_errorPosition_55 rfl (lv_at hl 2 rfl) ?_
              refine r_get cX inX5 hw (by rw [hE]; exact mu_at _ _ _) rfl 2 (by decide) wF_X5_19 rfl dX5_errorPosition_56 ?_
              exact r_iret cX hr hlocks hw ⟨⟨_, q1, q2, q3, hqq, hE⟩, by obtain ⟨z1, z2⟩ := hk.f c48; rw [if_neg (by rw [z1]; decide), ← z2]⟩ dX5_errorPosition_59
            · refine lv_iconst (v := (-1)) hx hb dX5_errorPosition_51 (by decide) ?_
              refine lv_goto (tgt := 59) hx hb dX5_errorPosition_52 (by decide) ?_
              exact r_iret cX hr hlocks hw ⟨⟨_, q1, q2, q3, hqq, hE⟩, (if_pos (hk.t c48 (hx1 c48))).symm⟩ dX5_errorPosition_59
          · refine lv_aload_n hx hb dX5_errorPosition_29 rfl (lv_at hl 2 rfl) ?_
            refine r_Vi cX hw (by rw [hE]; exact mu_at _ _ _) rfl [] (c_X5_isAtEnd l G (by rw [hE]; exact mu_at _ _ _) (by rw [hE, mu_ne _ _ (Ne.symm hab)]; exact hB) hlen hwn) wM_X5_28 mw_X5_isAtEnd ⟨Nat.le_of_ble_eq_true rfl, Nat.le_of_ble_eq_true rfl⟩ rfl rfl hl.1 (Nat.le_of_ble_eq_true rfl) dX5_errorPosition_30 ⟨Nat.le_of_ble_eq_true rfl, Nat.le_of_ble_eq_true rfl⟩ (fun r M1 H locs hp hw => ?_)
            obtain ⟨hr1, hq⟩ := hp
            subst hr1
            rw [hq] at hw
            refine lv_if_ne (tgt := 47) hx hb dX5_errorPosition_33 (by decide) (fun c33 => ?_) (fun c33 => ?_)
            · have hx1 : ¬ x1 = 0 → len ≤ w ∨ i = 120 := fun _ => Or.inl (if01n c33)
              refine lv_iload_n hx hb dX5_errorPosition_47 rfl (lv_at hl 1 rfl) ?_
              refine lv_if_eq (tgt := 55) hx hb dX5_errorPosition_48 (by decide) (fun c48 => ?_) (fun c48 => ?_)
              · refine lv_aload_n hx hb dX5_errorPosition_55 rfl (lv_at hl 2 rfl) ?_
                refine r_get cX inX5 hw (by rw [hE]; exact mu_at _ _ _) rfl 2 (by decide) wF_X5_19 rfl dX5_errorPosition_56 ?_
                exact r_iret cX hr hlocks hw ⟨⟨_, q1, q2, q3, hqq, hE⟩, by obtain ⟨z1, z2⟩ := hk.f c48; rw [if_neg (by rw [z1]; decide), ← z2]⟩ dX5_errorPosition_59
              · refine lv_iconst (v := (-1)) hx hb dX5_errorPosition_51 (by decide) ?_
                refine lv_goto (tgt := 59) hx hb dX5_errorPosition_52 (by decide) ?_
                exact r_iret cX hr hlocks hw ⟨⟨_, q1, q2, q3, hqq, hE⟩, (if_pos (hk.t c48 (hx1 c48))).symm⟩ dX5_errorPosition_59
            · refine lv_aload_n hx hb dX5_errorPosition_36 rfl (lv_at hl 2 rfl) ?_
              refine r_Vi cX hw (by rw [hE]; exact mu_at _ _ _) rfl [] (c_X5_readItem l G (by rw [hE]; exact mu_at _ _ _) (by rw [hE, mu_ne _ _ (Ne.symm hab)]; exact hB) hlen hwn) wM_X5_32 mw_X5_readItem ⟨Nat.le_of_ble_eq_true rfl, Nat.le_of_ble_eq_true rfl⟩ rfl rfl hl.1 (Nat.le_of_ble_eq_true rfl) dX5_errorPosition_37 ⟨Nat.le_of_ble_eq_true rfl, Nat.le_of_ble_eq_true rfl⟩ (fun r M1 H locs hp hw => ?_)
              obtain ⟨q1', q2', q3', hq', hp, hrd⟩ := hp
              have hE := muE2 hE hp
              refine lv_istore_n (lv' := [(1, .int r), (2, .int (nI i)), (0, .ref a)]) hx hb dX5_errorPosition_40 rfl hl (by decide) rfl (fun ls hl => ?_)
              refine lv_iinc (v := (nI (i + 1))) (lv' := [(2, .int (nI (i + 1))), (1, .int r), (0, .ref a)]) hx hb dX5_errorPosition_41 hl (k := 1) rfl (nI_1 i) (by decide) rfl (fun ls hl => ?_)
              refine lv_goto (tgt := 19) hx hb dX5_errorPosition_44 (by decide) ?_
              exact ih (i + 1) (by omega) (by omega) r ((rI T len w).2) q1' q2' q3' _ _ _ _ hw hE (hk.step c26 hlt (if01e c33) hrd) (rI_n hwn) hq' (lv_sub hl [0, 1, 2] rfl)
    exact lp19 (120 + 1) 0 (by omega) (by omega) 0 (sk T len 0) pk itf ita _ _ _ _ hw hE hk0 (sk_n (Nat.zero_le _)) hpk (lv_sub hl [0, 1, 2] rfl)
  · have hk0 : EP T len 0 1 (sk T len 0) := EP.go (if01e c8)
    refine lv_iconst (v := 1) hx hb dX5_errorPosition_11 (by decide) ?_
    refine lv_goto (tgt := 16) hx hb dX5_errorPosition_12 (by decide) ?_
    refine lv_istore_n (lv' := [(1, .int 1), (0, .ref a)]) hx hb dX5_errorPosition_16 rfl hl (by decide) rfl (fun ls hl => ?_)
    refine lv_iconst (v := 0) hx hb dX5_errorPosition_17 (by decide) ?_
    refine lv_istore_n (lv' := [(2, .int 0), (1, .int 1), (0, .ref a)]) hx hb dX5_errorPosition_18 rfl hl (by decide) rfl (fun ls hl => ?_)
    have lp19 : ∀ (nn i : Nat), i ≤ 120 → 120 < i + nn → ∀ (x1 : Int32) (w : Nat) (q1 : Int32) (q2 : Int32) (q3 : Int32) (M1 : HM) (H : Heap) (locs : List Loc) (ls : Array Slot), Wd G (dm M s.heap.size) s.heap M1 H locs → M1 = mu M a (.inr (5, trO b len (nI w) q1 q2 q3)) → EP T len i x1 w → w ≤ len → (q1 = 0 ∨ q1 = 1) → lv_has ls 3 [(2, .int (nI i)), (1, .int x1), (0, .ref a)] → W p l e (rd 5 0 0) s m args below meth c H locs 0 0 (MQ below (QI G M s.heap.size (fun r M' => (∃ x0 x1 x2 x3 : Int32, (x1 = 0 ∨ x1 = 1) ∧ M' = mu M a (.inr (5, trO b len x0 x1 x2 x3))) ∧ r = (if (fnd T len 120 0).2 = true then -1 else nI (rI T len (ps T len (fnd T len 120 0).1)).2))) args s 0 0 (dm M s.heap.size)) (F0 m 19 ls []) := by
      intro nn
      induction nn with
      | zero =>
        intro i h1 h2
        exact absurd h2 (by omega)
      | succ nn ih =>
        intro i hi hin x1 w q1 q2 q3 M1 H locs ls hw hE hk hwn hqq hl
        refine lv_iload_n hx hb dX5_errorPosition_19 rfl (lv_at hl 0 rfl) ?_
        refine lv_bipush (v := 120) hx hb dX5_errorPosition_20 (by decide) ?_
        refine lv_icmp_ge (tgt := 47) hx hb dX5_errorPosition_22 (by decide) (fun c22 => ?_) (fun c22 => ?_)
        · have hx1 : ¬ x1 = 0 → len ≤ w ∨ i = 120 := fun _ => Or.inr (Nat.le_antisymm hi (ix_ge (b := 120) (by omega) (by decide) c22))
          refine lv_iload_n hx hb dX5_errorPosition_47 rfl (lv_at hl 1 rfl) ?_
          refine lv_if_eq (tgt := 55) hx hb dX5_errorPosition_48 (by decide) (fun c48 => ?_) (fun c48 => ?_)
          · refine lv_aload_n hx hb dX5_errorPosition_55 rfl (lv_at hl 2 rfl) ?_
            refine r_get cX inX5 hw (by rw [hE]; exact mu_at _ _ _) rfl 2 (by decide) wF_X5_19 rfl dX5_errorPosition_56 ?_
            exact r_iret cX hr hlocks hw ⟨⟨_, q1, q2, q3, hqq, hE⟩, by obtain ⟨z1, z2⟩ := hk.f c48; rw [if_neg (by rw [z1]; decide), ← z2]⟩ dX5_errorPosition_59
          · refine lv_iconst (v := (-1)) hx hb dX5_errorPosition_51 (by decide) ?_
            refine lv_goto (tgt := 59) hx hb dX5_errorPosition_52 (by decide) ?_
            exact r_iret cX hr hlocks hw ⟨⟨_, q1, q2, q3, hqq, hE⟩, (if_pos (hk.t c48 (hx1 c48))).symm⟩ dX5_errorPosition_59
        · have hlt : i < 120 := ix_lt (b := 120) (by omega) c22
          refine lv_iload_n hx hb dX5_errorPosition_25 rfl (lv_at hl 1 rfl) ?_
          refine lv_if_eq (tgt := 47) hx hb dX5_errorPosition_26 (by decide) (fun c26 => ?_) (fun c26 => ?_)
          · have hx1 : ¬ x1 = 0 → len ≤ w ∨ i = 120 := fun h => absurd c26 h
            refine lv_iload_n hx hb dX5_errorPosition_47 rfl (lv_at hl 1 rfl) ?_
            refine lv_if_eq (tgt := 55) hx hb dX5_errorPosition_48 (by decide) (fun c48 => ?_) (fun c48 => ?_)
            · refine lv_aload_n hx hb dX5_errorPosition_55 rfl (lv_at hl 2 rfl) ?_
              refine r_get cX inX5 hw (by rw [hE]; exact mu_at _ _ _) rfl 2 (by decide) wF_X5_19 rfl dX5_errorPosition_56 ?_
              exact r_iret cX hr hlocks hw ⟨⟨_, q1, q2, q3, hqq, hE⟩, by obtain ⟨z1, z2⟩ := hk.f c48; rw [if_neg (by rw [z1]; decide), ← z2]⟩ dX5_errorPosition_59
            · refine lv_iconst (v := (-1)) hx hb dX5_errorPosition_51 (by decide) ?_
              refine lv_goto (tgt := 59) hx hb dX5_errorPosition_52 (by decide) ?_
              exact r_iret cX hr hlocks hw ⟨⟨_, q1, q2, q3, hqq, hE⟩, (if_pos (hk.t c48 (hx1 c48))).symm⟩ dX5_errorPosition_59
          · refine lv_aload_n hx hb dX5_errorPosition_29 rfl (lv_at hl 2 rfl) ?_
            refine r_Vi cX hw (by rw [hE]; exact mu_at _ _ _) rfl [] (c_X5_isAtEnd l G (by rw [hE]; exact mu_at _ _ _) (by rw [hE, mu_ne _ _ (Ne.symm hab)]; exact hB) hlen hwn) wM_X5_28 mw_X5_isAtEnd ⟨Nat.le_of_ble_eq_true rfl, Nat.le_of_ble_eq_true rfl⟩ rfl rfl hl.1 (Nat.le_of_ble_eq_true rfl) dX5_errorPosition_30 ⟨Nat.le_of_ble_eq_true rfl, Nat.le_of_ble_eq_true rfl⟩ (fun r M1 H locs hp hw => ?_)
            obtain ⟨hr1, hq⟩ := hp
            subst hr1
            rw [hq] at hw
            refine lv_if_ne (tgt := 47) hx hb dX5_errorPosition_33 (by decide) (fun c33 => ?_) (fun c33 => ?_)
            · have hx1 : ¬ x1 = 0 → len ≤ w ∨ i = 120 := fun _ => Or.inl (if01n c33)
              refine lv_iload_n hx hb dX5_errorPosition_47 rfl (lv_at hl 1 rfl) ?_
              refine lv_if_eq (tgt := 55) hx hb dX5_errorPosition_48 (by decide) (fun c48 => ?_) (fun c48 => ?_)
              · refine lv_aload_n hx hb dX5_errorPosition_55 rfl (lv_at hl 2 rfl) ?_
                refine r_get cX inX5 hw (by rw [hE]; exact mu_at _ _ _) rfl 2 (by decide) wF_X5_19 rfl dX5_errorPosition_56 ?_
                exact r_iret cX hr hlocks hw ⟨⟨_, q1, q2, q3, hqq, hE⟩, by obtain ⟨z1, z2⟩ := hk.f c48; rw [if_neg (by rw [z1]; decide), ← z2]⟩ dX5_errorPosition_59
              · refine lv_iconst (v := (-1)) hx hb dX5_errorPosition_51 (by decide) ?_
                refine lv_goto (tgt := 59) hx hb dX5_errorPosition_52 (by decide) ?_
                exact r_iret cX hr hlocks hw ⟨⟨_, q1, q2, q3, hqq, hE⟩, (if_pos (hk.t c48 (hx1 c48))).symm⟩ dX5_errorPosition_59
            · refine lv_aload_n hx hb dX5_errorPosition_36 rfl (lv_at hl 2 rfl) ?_
              refine r_Vi cX hw (by rw [hE]; exact mu_at _ _ _) rfl [] (c_X5_readItem l G (by rw [hE]; exact mu_at _ _ _) (by rw [hE, mu_ne _ _ (Ne.symm hab)]; exact hB) hlen hwn) wM_X5_32 mw_X5_readItem ⟨Nat.le_of_ble_eq_true rfl, Nat.le_of_ble_eq_true rfl⟩ rfl rfl hl.1 (Nat.le_of_ble_eq_true rfl) dX5_errorPosition_37 ⟨Nat.le_of_ble_eq_true rfl, Nat.le_of_ble_eq_true rfl⟩ (fun r M1 H locs hp hw => ?_)
              obtain ⟨q1', q2', q3', hq', hp, hrd⟩ := hp
              have hE := muE2 hE hp
              refine lv_istore_n (lv' := [(1, .int r), (2, .int (nI i)), (0, .ref a)]) hx hb dX5_errorPosition_40 rfl hl (by decide) rfl (fun ls hl => ?_)
              refine lv_iinc (v := (nI (i + 1))) (lv' := [(2, .int (nI (i + 1))), (1, .int r), (0, .ref a)]) hx hb dX5_errorPosition_41 hl (k := 1) rfl (nI_1 i) (by decide) rfl (fun ls hl => ?_)
              refine lv_goto (tgt := 19) hx hb dX5_errorPosition_44 (by decide) ?_
              exact ih (i + 1) (by omega) (by omega) r ((rI T len w).2) q1' q2' q3' _ _ _ _ hw hE (hk.step c26 hlt (if01e c33) hrd) (rI_n hwn) hq' (lv_sub hl [0, 1, 2] rfl)
    exact lp19 (120 + 1) 0 (by omega) (by omega) 1 (sk T len 0) pk itf ita _ _ _ _ hw hE hk0 (sk_n (Nat.zero_le _)) hpk (lv_sub hl [0, 1, 2] rfl)

set_option maxHeartbeats 4000000 in
set_option maxRecDepth 100000 in
theorem c_X6_runItem (l : Launch) (G : gG) {M : HM} {ad : Nat → Nat} {F : Nat → Nat → Int32} {nx ct : Nat} {fl T : Nat → Int32} {len : Nat} {tr : Nat → Int32} (hC0 : IsCl G M ad F nx ct fl T len tr) {B : Nat} (hv : Inv B (F 0)) (hB : B < 2 ^ 30) {o : Option (Option Int32 × Int32)} (ho : rdI o 1 (tr 1) (tr 2) (tr 3)) : Ci l yX6_runItem cX6_runItem 2 .boolean (rd 5 0 0) G [.ref (ad 0)] M (fun r M' => r = (exI (F 0) o).1 ∧ Cl G M M' ad (uF F 0 (exI (F 0) o).2) nx ct fl T len tr) := by
  refine Ci.of (by decide) (Nat.le_of_ble_eq_true rfl) ?_
  intro p e s m args below meth c ls cX hw hlocks hr hl
  have hx := cX.1
  have hb := cX.2.1
  have hl : lv_has ls 2 [(0, .ref (ad 0))] := hl
  have hC : Cl G M M ad F nx ct fl T len tr := ⟨hC0, OffC.rf M ad 359⟩
  have hI := (hC.1.sts 0 (by decide)).st
  refine lv_aload_n hx hb dX6_runItem_0 rfl (lv_at hl 0 rfl) ?_
  refine r_get cX inX6 hw hC.1.1 rfl 4 (by decide) wF_X6_34 rfl dX6_runItem_1 ?_
  refine r_get cX inX5 hw hC.1.2.2.2.2.2.1 rfl 3 (by decide) wF_X6_234 rfl dX6_runItem_4 ?_
  refine lv_if_eq (tgt := 71) hx hb dX6_runItem_7 (by decide) (fun c7 => ?_) (fun c7 => ?_)
  · obtain rfl : o = some (none, tr 3) := rd_t ho c7
    refine lv_aload_n hx hb dX6_runItem_71 rfl (lv_at hl 0 rfl) ?_
    refine r_get cX inX6 hw hC.1.1 rfl 4 (by decide) wF_X6_34 rfl dX6_runItem_72 ?_
    refine r_get cX inX5 hw hC.1.2.2.2.2.2.1 rfl 5 (by decide) wF_X6_240 rfl dX6_runItem_75 ?_
    refine lv_iconst (v := 1) hx hb dX6_runItem_78 (by decide) ?_
    refine lv_sipush (v := 1000) hx hb dX6_runItem_79 (by decide) ?_
    refine r_Si cX hw [.int (tr 3), .int 1, .int 1000] (c_X6_isBetween l G (tr 3) 1 1000) wM_X6_38 mw_X6_isBetween ⟨Nat.le_of_ble_eq_true rfl, Nat.le_of_ble_eq_true rfl⟩ rfl rfl hl.1 (Nat.le_of_ble_eq_true rfl) dX6_runItem_82 ⟨Nat.le_of_ble_eq_true rfl, Nat.le_of_ble_eq_true rfl⟩ (fun r M1 H locs hp hw => ?_)
    obtain ⟨hr1, hq⟩ := hp
    subst hr1
    rw [hq] at hw
    refine lv_if_eq (tgt := 109) hx hb dX6_runItem_85 (by decide) (fun c85 => ?_) (fun c85 => ?_)
    · refine lv_iconst (v := 0) hx hb dX6_runItem_109 (by decide) ?_
      refine lv_istore_n (lv' := [(1, .int 0), (0, .ref (ad 0))]) hx hb dX6_runItem_110 rfl hl (by decide) rfl (fun ls hl => ?_)
      refine lv_iload_n hx hb dX6_runItem_111 rfl (lv_at hl 0 rfl) ?_
      refine lv_if_eq (tgt := 129) hx hb dX6_runItem_112 (by decide) (fun _ => ?_) (fun h => absurd h (by decide))
      refine lv_iload_n hx hb dX6_runItem_129 rfl (lv_at hl 0 rfl) ?_
      exact r_zret cX hr hlocks rfl hw (by unfold exI; (try dsimp only); rw [if_neg (fun h => if01e c85 h.1)]; exact ⟨rfl, by rw [uF_id]; exact hC⟩) dX6_runItem_130
    · refine lv_aload_n hx hb dX6_runItem_88 rfl (lv_at hl 0 rfl) ?_
      refine r_get cX inX6 hw hC.1.1 rfl 0 (by decide) wF_X6_10 rfl dX6_runItem_89 ?_
      refine lv_aload_n hx hb dX6_runItem_92 rfl (lv_at hl 0 rfl) ?_
      refine r_get cX inX6 hw hC.1.1 rfl 4 (by decide) wF_X6_34 rfl dX6_runItem_93 ?_
      refine r_get cX inX5 hw hC.1.2.2.2.2.2.1 rfl 5 (by decide) wF_X6_240 rfl dX6_runItem_96 ?_
      refine r_Vi cX hw hI.1.1 rfl [.int (tr 3)] (c_X4_hasTimeFor l G hI.1 (tr 3)) wM_X6_89 mw_X4_hasTimeFor ⟨Nat.le_of_ble_eq_true rfl, Nat.le_of_ble_eq_true rfl⟩ rfl rfl hl.1 (Nat.le_of_ble_eq_true rfl) dX6_runItem_99 ⟨Nat.le_of_ble_eq_true rfl, Nat.le_of_ble_eq_true rfl⟩ (fun r M1 H locs hp hw => ?_)
      obtain ⟨hr1, hq⟩ := hp
      rw [hq] at hw
      clear hq
      rw [hr1]
      clear hr1
      refine lv_if_eq (tgt := 109) hx hb dX6_runItem_102 (by decide) (fun c102 => ?_) (fun c102 => ?_)
      · refine lv_iconst (v := 0) hx hb dX6_runItem_109 (by decide) ?_
        refine lv_istore_n (lv' := [(1, .int 0), (0, .ref (ad 0))]) hx hb dX6_runItem_110 rfl hl (by decide) rfl (fun ls hl => ?_)
        refine lv_iload_n hx hb dX6_runItem_111 rfl (lv_at hl 0 rfl) ?_
        refine lv_if_eq (tgt := 129) hx hb dX6_runItem_112 (by decide) (fun _ => ?_) (fun h => absurd h (by decide))
        refine lv_iload_n hx hb dX6_runItem_129 rfl (lv_at hl 0 rfl) ?_
        exact r_zret cX hr hlocks rfl hw (by unfold exI; (try dsimp only); rw [if_neg (fun h => if01e c102 h.2)]; exact ⟨rfl, by rw [uF_id]; exact hC⟩) dX6_runItem_130
      · refine lv_iconst (v := 1) hx hb dX6_runItem_105 (by decide) ?_
        refine lv_goto (tgt := 110) hx hb dX6_runItem_106 (by decide) ?_
        refine lv_istore_n (lv' := [(1, .int 1), (0, .ref (ad 0))]) hx hb dX6_runItem_110 rfl hl (by decide) rfl (fun ls hl => ?_)
        refine lv_iload_n hx hb dX6_runItem_111 rfl (lv_at hl 0 rfl) ?_
        refine lv_if_eq (tgt := 129) hx hb dX6_runItem_112 (by decide) (fun h => absurd h (by decide)) (fun _ => ?_)
        refine lv_aload_n hx hb dX6_runItem_115 rfl (lv_at hl 1 rfl) ?_
        refine r_get cX inX6 hw hC.1.1 rfl 0 (by decide) wF_X6_10 rfl dX6_runItem_116 ?_
        refine lv_aload_n hx hb dX6_runItem_119 rfl (lv_at hl 1 rfl) ?_
        refine r_get cX inX6 hw hC.1.1 rfl 4 (by decide) wF_X6_34 rfl dX6_runItem_120 ?_
        refine r_get cX inX5 hw hC.1.2.2.2.2.2.1 rfl 5 (by decide) wF_X6_240 rfl dX6_runItem_123 ?_
        obtain ⟨T0, hT0, hT1⟩ := hv.1
        obtain ⟨k, hk1, hxk, hxc, hTk⟩ := adv_ix hT0 hT1 (if01n c85) (if01n c102)
        rw [hxk]
        refine r_Vv cX hw hI.1.1 rfl [.int (nI k)] (c_X4_letTimePass l G hI.1 hv hT1 hTk) wM_X6_92 mw_X4_letTimePass ⟨Nat.le_of_ble_eq_true rfl, Nat.le_of_ble_eq_true rfl⟩ rfl rfl hl.1 (Nat.le_of_ble_eq_true rfl) dX6_runItem_126 ⟨Nat.le_of_ble_eq_true rfl, Nat.le_of_ble_eq_true rfl⟩ (fun M1 H locs hp hw => ?_)
        have hC := hC.st 0 (by decide) hp
        have hI := ((hC.1.sts 0 (by decide)).st).re (uF_at _ _ _)
        refine lv_iload_n hx hb dX6_runItem_129 rfl (lv_at hl 0 rfl) ?_
        exact r_zret cX hr hlocks rfl hw (by unfold exI; (try dsimp only); rw [if_pos (by rw [← hxk]; exact ⟨if01n c85, if01n c102⟩), nI_clamp (by omega)]; exact ⟨rfl, hC⟩) dX6_runItem_130
  · obtain rfl : o = some (some (tr 2), tr 3) := rd_p ho c7
    refine lv_aload_n hx hb dX6_runItem_10 rfl (lv_at hl 0 rfl) ?_
    refine r_get cX inX6 hw hC.1.1 rfl 4 (by decide) wF_X6_34 rfl dX6_runItem_11 ?_
    refine r_get cX inX5 hw hC.1.2.2.2.2.2.1 rfl 4 (by decide) wF_X6_237 rfl dX6_runItem_14 ?_
    refine r_Si cX hw [.int (tr 2)] (c_X6_isFlow l G (tr 2)) wM_X6_99 mw_X6_isFlow ⟨Nat.le_of_ble_eq_true rfl, Nat.le_of_ble_eq_true rfl⟩ rfl rfl hl.1 (Nat.le_of_ble_eq_true rfl) dX6_runItem_17 ⟨Nat.le_of_ble_eq_true rfl, Nat.le_of_ble_eq_true rfl⟩ (fun r M1 H locs hp hw => ?_)
    obtain ⟨hr1, hq⟩ := hp
    subst hr1
    rw [hq] at hw
    refine lv_if_eq (tgt := 40) hx hb dX6_runItem_20 (by decide) (fun c20 => ?_) (fun c20 => ?_)
    · refine lv_iconst (v := 0) hx hb dX6_runItem_40 (by decide) ?_
      refine lv_istore_n (lv' := [(1, .int 0), (0, .ref (ad 0))]) hx hb dX6_runItem_41 rfl hl (by decide) rfl (fun ls hl => ?_)
      refine lv_iload_n hx hb dX6_runItem_42 rfl (lv_at hl 0 rfl) ?_
      refine lv_if_eq (tgt := 129) hx hb dX6_runItem_43 (by decide) (fun _ => ?_) (fun h => absurd h (by decide))
      refine lv_iload_n hx hb dX6_runItem_129 rfl (lv_at hl 0 rfl) ?_
      exact r_zret cX hr hlocks rfl hw (by unfold exI; (try dsimp only); rw [if_neg (fun h => if01e c20 h.1)]; exact ⟨rfl, by rw [uF_id]; exact hC⟩) dX6_runItem_130
    · refine lv_aload_n hx hb dX6_runItem_23 rfl (lv_at hl 0 rfl) ?_
      refine r_get cX inX6 hw hC.1.1 rfl 4 (by decide) wF_X6_34 rfl dX6_runItem_24 ?_
      refine r_get cX inX5 hw hC.1.2.2.2.2.2.1 rfl 5 (by decide) wF_X6_240 rfl dX6_runItem_27 ?_
      refine r_Si cX hw [.int (tr 3)] (c_X6_isSize l G (tr 3)) wM_X6_102 mw_X6_isSize ⟨Nat.le_of_ble_eq_true rfl, Nat.le_of_ble_eq_true rfl⟩ rfl rfl hl.1 (Nat.le_of_ble_eq_true rfl) dX6_runItem_30 ⟨Nat.le_of_ble_eq_true rfl, Nat.le_of_ble_eq_true rfl⟩ (fun r M1 H locs hp hw => ?_)
      obtain ⟨hr1, hq⟩ := hp
      subst hr1
      rw [hq] at hw
      refine lv_if_eq (tgt := 40) hx hb dX6_runItem_33 (by decide) (fun c33 => ?_) (fun c33 => ?_)
      · refine lv_iconst (v := 0) hx hb dX6_runItem_40 (by decide) ?_
        refine lv_istore_n (lv' := [(1, .int 0), (0, .ref (ad 0))]) hx hb dX6_runItem_41 rfl hl (by decide) rfl (fun ls hl => ?_)
        refine lv_iload_n hx hb dX6_runItem_42 rfl (lv_at hl 0 rfl) ?_
        refine lv_if_eq (tgt := 129) hx hb dX6_runItem_43 (by decide) (fun _ => ?_) (fun h => absurd h (by decide))
        refine lv_iload_n hx hb dX6_runItem_129 rfl (lv_at hl 0 rfl) ?_
        exact r_zret cX hr hlocks rfl hw (by unfold exI; (try dsimp only); rw [if_neg (fun h => if01e c33 h.2)]; exact ⟨rfl, by rw [uF_id]; exact hC⟩) dX6_runItem_130
      · refine lv_iconst (v := 1) hx hb dX6_runItem_36 (by decide) ?_
        refine lv_goto (tgt := 41) hx hb dX6_runItem_37 (by decide) ?_
        refine lv_istore_n (lv' := [(1, .int 1), (0, .ref (ad 0))]) hx hb dX6_runItem_41 rfl hl (by decide) rfl (fun ls hl => ?_)
        refine lv_iload_n hx hb dX6_runItem_42 rfl (lv_at hl 0 rfl) ?_
        refine lv_if_eq (tgt := 129) hx hb dX6_runItem_43 (by decide) (fun h => absurd h (by decide)) (fun _ => ?_)
        refine lv_aload_n hx hb dX6_runItem_46 rfl (lv_at hl 1 rfl) ?_
        refine r_get cX inX6 hw hC.1.1 rfl 0 (by decide) wF_X6_10 rfl dX6_runItem_47 ?_
        refine lv_aload_n hx hb dX6_runItem_50 rfl (lv_at hl 1 rfl) ?_
        refine r_get cX inX6 hw hC.1.1 rfl 4 (by decide) wF_X6_34 rfl dX6_runItem_51 ?_
        refine r_get cX inX5 hw hC.1.2.2.2.2.2.1 rfl 4 (by decide) wF_X6_237 rfl dX6_runItem_54 ?_
        refine lv_aload_n hx hb dX6_runItem_57 rfl (lv_at hl 1 rfl) ?_
        refine r_get cX inX6 hw hC.1.1 rfl 4 (by decide) wF_X6_34 rfl dX6_runItem_58 ?_
        refine r_get cX inX5 hw hC.1.2.2.2.2.2.1 rfl 5 (by decide) wF_X6_240 rfl dX6_runItem_61 ?_
        obtain ⟨k, hk, hxk, hxc⟩ := lit_ix 15 (by decide) (if01n c20)
        rw [hxk]
        refine r_Vi cX hw hI.1.1 rfl [.int (nI k), .int (tr 3)] (c_X4_sendPacket l G hI.1 hv hB k hk (tr 3)) wM_X6_105 mw_X4_sendPacket ⟨Nat.le_of_ble_eq_true rfl, Nat.le_of_ble_eq_true rfl⟩ rfl rfl hl.1 (Nat.le_of_ble_eq_true rfl) dX6_runItem_64 ⟨Nat.le_of_ble_eq_true rfl, Nat.le_of_ble_eq_true rfl⟩ (fun r M1 H locs hp hw => ?_)
        obtain ⟨rfl, hp⟩ := hp
        have hC := hC.st 0 (by decide) hp
        have hI := ((hC.1.sts 0 (by decide)).st).re (uF_at _ _ _)
        refine lv_pop hx hb dX6_runItem_67 rfl ?_
        refine lv_goto (tgt := 129) hx hb dX6_runItem_68 (by decide) ?_
        refine lv_iload_n hx hb dX6_runItem_129 rfl (lv_at hl 0 rfl) ?_
        exact r_zret cX hr hlocks rfl hw (by unfold exI; (try dsimp only); rw [if_pos (by rw [← hxk]; exact ⟨if01n c20, if01n c33⟩), nI_clamp (by omega)]; exact ⟨rfl, hC⟩) dX6_runItem_130
