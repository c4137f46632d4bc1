theorem psh_id (F : Nat → Nat → Int32) (nx : Nat) : uF (uF F (nx + 1) (F 0)) 0 (F 0) = uF F (nx + 1) (F 0) := by
  funext i
  by_cases h : i = 0
  · rw [h, uF_at, psh_0]
  · exact uF_ne _ _ h
theorem uF_uF (F : Nat → Nat → Int32) (j : Nat) (f g : Nat → Int32) : uF (uF F j f) j g = uF F j g := by
  funext i
  unfold uF
  split
  · rfl
  · rfl
theorem Inv.re {B : Nat} {f g : Nat → Int32} (h : Inv B f) (e : g = f) : Inv B g := e ▸ h
theorem Cl.reF {G : gG} {M0 M : HM} {ad : Nat → Nat} {F F' : Nat → Nat → Int32} {nx ct : Nat} {fl T : Nat → Int32} {len : Nat} {tr : Nat → Int32} (h : Cl G M0 M ad F nx ct fl T len tr) (e : F' = F) : Cl G M0 M ad F' nx ct fl T len tr := e ▸ h
theorem Cl.trc2 {G : gG} {M0 M M2 : HM} {ad : Nat → Nat} {F : Nat → Nat → Int32} {nx ct : Nat} {fl T : Nat → Int32} {len : Nat} {tr : Nat → Int32} (h : Cl G M0 M ad F nx ct fl T len tr) {len' : Nat} {x0 x1 x2 x3 : Int32} (hl : len' ≤ 120) (hx : x1 = 0 ∨ x1 = 1) (e : M2 = mu M (ad 5) (.inr (5, trO (ad 6) len' x0 x1 x2 x3))) : ∃ w : Nat → Int32, (w 0 = x0 ∧ w 1 = x1 ∧ w 2 = x2 ∧ w 3 = x3) ∧ Cl G M0 M2 ad F nx ct fl T len' w := by
  subst e
  exact ⟨_, ⟨rfl, rfl, rfl, rfl⟩, h.trc hl hx⟩
theorem fnd_all {T : Nat → Int32} {n : Nat} : ∀ (m k : Nat), (∀ j, j < k → (rI T n (ps T n j)).1 ≠ none) → ∀ j, j < (fnd T n m k).1 → (rI T n (ps T n j)).1 ≠ none := by
  intro m
  induction m with
  | zero => exact fun k h => h
  | succ m ih =>
    intro k h
    unfold fnd
    split
    · exact h
    · rename_i c1
      have h' : ∀ j, j < k + 1 → (rI T n (ps T n j)).1 ≠ none := fun j hj => by
        by_cases e : j = k
        · rw [e]
          exact c1
        · exact h j (by omega)
      split
      · exact h'
      · exact ih (k + 1) h'
theorem fnd_ps {T : Nat → Int32} {n : Nat} : ps T n (fnd T n 120 0).1 ≤ n := (ps_sk _ (fnd_all 120 0 (fun j hj => absurd hj (by omega)))).2.1
theorem rt_ok {T : Nat → Int32} {n : Nat} (hn : n ≤ 120) (h : (if (fnd T n 120 0).2 = true then -1 else nI (rI T n (ps T n (fnd T n 120 0).1)).2) = -1) : (fnd T n 120 0).2 = true := by
  by_cases q : (fnd T n 120 0).2 = true
  · exact q
  · rw [if_neg q] at h
    exact absurd h (nI_nem1 (by have := rI_n (T := T) (fnd_ps (T := T) (n := n)); omega))
theorem rt_x0 {T f : Nat → Int32} {n i : Nat} {r : Int32} (h : r = (exI (exS T n f i).2 (rI T n (ps T n i)).1).1) (h0 : r = 0) : (exS T n f i).1 = (exS T n f (i + 1)).1 := by
  show _ = _ + _
  rw [← h, h0]
  exact (Int32.add_zero _).symm
theorem rt_r1 {o : Option (Option Int32 × Int32)} {r pk itf ita : Int32} (h : rdI o r pk itf ita) (h0 : ¬ r = 0) : r = 1 := (rd_0 h).elim (fun q => absurd q.2 h0) (fun q => q.2)
theorem rt_end {T : Nat → Int32} {n i K : Nat} {r pk itf ita : Int32} (hK : ∀ j, j < K → (rI T n (ps T n j)).1 ≠ none) (hi : i ≤ K) (h : rdI (rI T n (ps T n i)).1 r pk itf ita) (h0 : r = 0) : i = K := by
  rcases rd_0 h with ⟨a, -⟩ | ⟨-, b⟩
  · rcases Nat.lt_or_ge i K with q | q
    · exact absurd a (hK i q)
    · omega
  · rw [b] at h0
    exact absurd h0 (by decide)
theorem rt_more {T : Nat → Int32} {n i K : Nat} {r pk itf ita : Int32} (hK : n ≤ ps T n K) (hi : i ≤ K) (h : rdI (rI T n (ps T n i)).1 r pk itf ita) (h0 : ¬ r = 0) : i < K := by
  rcases Nat.lt_or_ge i K with q | q
  · exact q
  · obtain rfl : i = K := by omega
    rw [rI_end hK] at h
    exact absurd h h0
theorem exI_01 (f : Nat → Int32) (o : Option (Option Int32 × Int32)) : (exI f o).1 = 0 ∨ (exI f o).1 = 1 := by
  unfold exI
  split
  · exact Or.inl rfl
  · split
    · exact Or.inr rfl
    · exact Or.inl rfl
  · split
    · exact Or.inr rfl
    · exact Or.inl rfl
theorem rt_x1 {T f : Nat → Int32} {n i : Nat} {r : Int32} (h : r = (exI (exS T n f i).2 (rI T n (ps T n i)).1).1) (h0 : ¬ r = 0) : (exS T n f i).1 + 1 = (exS T n f (i + 1)).1 := by
  show _ = _ + _
  rw [← h, (exI_01 _ _).elim (fun q => absurd (h.trans q) h0) (fun q => h.trans q)]
set_option maxHeartbeats 4000000 in
set_option maxRecDepth 100000 in
theorem c_X6_runTrace (l : Launch) (G : gG) {M : HM} {ad : Nat → Nat} {F : Nat → Nat → Int32} {nx ct : Nat} {fl T : Nat → Int32} {len : Nat} {tr : Nat → Int32} (hC0 : IsCl G M ad F nx ct fl T len tr) {B : Nat} (hv : Inv B (F 0)) (hB : B + 120 < 2 ^ 30) : Ci l yX6_runTrace cX6_runTrace 4 .int (rd 6 0 0) G [.ref (ad 0)] M (fun r M' => r = (s_runTrace (F, nx, ct, fl, T, len)).1 ∧ CL G M M' ad (s_runTrace (F, nx, ct, fl, T, len)).2) := by
  have hlen := hC0.2.2.2.2.2.2.2.2.2.2.2.1
  have htr1 := hC0.2.2.2.2.2.2.2.2.2.2.2.2.2
  refine Ci.of (by decide) (Nat.le_of_ble_eq_true rfl) ?_
  intro p e s m args below meth c ls cX hw hlocks hr hl
  have hx := cX.1
  have hb := cX.2.1
  have hl : lv_has ls 4 [(0, .ref (ad 0))] := hl
  have hC : Cl G M M ad F nx ct fl T len tr := ⟨hC0, OffC.rf M ad 359⟩
  have hI := (hC.1.sts 0 (by decide)).st
  refine lv_aload_n hx hb dX6_runTrace_0 rfl (lv_at hl 0 rfl) ?_
  refine r_get cX inX6 hw hC.1.1 rfl 4 (by decide) wF_X6_34 rfl dX6_runTrace_1 ?_
  refine r_Vi cX hw hC.1.2.2.2.2.2.1 rfl [] (c_X5_errorPosition l G hC.1.2.2.2.2.2.1 hC.1.2.2.2.2.2.2.1 hlen htr1) wM_X6_210 mw_X5_errorPosition ⟨Nat.le_of_ble_eq_true rfl, Nat.le_of_ble_eq_true rfl⟩ rfl rfl hl.1 (Nat.le_of_ble_eq_true rfl) dX6_runTrace_4 ⟨Nat.le_of_ble_eq_true rfl, Nat.le_of_ble_eq_true rfl⟩ (fun r M1 H locs hp hw => ?_)
  obtain ⟨⟨y0, y1, y2, y3, hy, hp⟩, hr1⟩ := hp
  subst hr1
  obtain ⟨w1, -, hC⟩ := hC.trc2 hlen hy hp
  have hI := (hC.1.sts 0 (by decide)).st
  refine lv_istore_n (lv' := [(1, .int (if (fnd T len 120 0).2 = true then -1 else nI (rI T len (ps T len (fnd T len 120 0).1)).2)), (0, .ref (ad 0))]) hx hb dX6_runTrace_7 rfl hl (by decide) rfl (fun ls hl => ?_)
  refine lv_iload_n hx hb dX6_runTrace_8 rfl (lv_at hl 0 rfl) ?_
  refine lv_iconst (v := (-1)) hx hb dX6_runTrace_9 (by decide) ?_
  refine lv_icmp_eq (tgt := 18) hx hb dX6_runTrace_10 (by decide) (fun c10 => ?_) (fun c10 => ?_)
  · have hf : (fnd T len 120 0).2 = true := rt_ok hlen c10
    obtain ⟨hK1, hK2, hK3⟩ := fnd_ok hlen 120 0 (by omega) (fun j hj => absurd hj (by omega)) (Or.inl rfl) hf
    obtain ⟨hK4, hK5, hK6⟩ := ps_sk _ hK1
    refine lv_aload_n hx hb dX6_runTrace_18 rfl (lv_at hl 1 rfl) ?_
    refine r_get cX inX6 hw hC.1.1 rfl 1 (by decide) wF_X6_19 rfl dX6_runTrace_19 ?_
    refine lv_aload_n hx hb dX6_runTrace_22 rfl (lv_at hl 1 rfl) ?_
    refine r_get cX inX6 hw hC.1.1 rfl 0 (by decide) wF_X6_10 rfl dX6_runTrace_23 ?_
    refine r_Vv cX hw hC.1.2.1 rfl [.ref (Lst ad 0 0)] (c_X3_push l G hC.1) wM_X6_42 mw_X3_push ⟨Nat.le_of_ble_eq_true rfl, Nat.le_of_ble_eq_true rfl⟩ rfl rfl hl.1 (Nat.le_of_ble_eq_true rfl) dX6_runTrace_26 ⟨Nat.le_of_ble_eq_true rfl, Nat.le_of_ble_eq_true rfl⟩ (fun M1 H locs hp hw => ?_)
    have hC := hC.trans hp
    have hI := ((hC.1.sts 0 (by decide)).st).re (psh_0 F nx)
    refine lv_iconst (v := 0) hx hb dX6_runTrace_29 (by decide) ?_
    refine lv_istore_n (lv' := [(2, .int 0), (1, .int (if (fnd T len 120 0).2 = true then -1 else nI (rI T len (ps T len (fnd T len 120 0).1)).2)), (0, .ref (ad 0))]) hx hb dX6_runTrace_30 rfl hl (by decide) rfl (fun ls hl => ?_)
    refine lv_aload_n hx hb dX6_runTrace_31 rfl (lv_at hl 2 rfl) ?_
    refine r_get cX inX6 hw hC.1.1 rfl 4 (by decide) wF_X6_34 rfl dX6_runTrace_32 ?_
    refine r_Vv cX hw hC.1.2.2.2.2.2.1 rfl [] (c_X5_rewind l G hC.1.2.2.2.2.2.1 hC.1.2.2.2.2.2.2.1 hlen) wM_X6_213 mw_X5_rewind ⟨Nat.le_of_ble_eq_true rfl, Nat.le_of_ble_eq_true rfl⟩ rfl rfl hl.1 (Nat.le_of_ble_eq_true rfl) dX6_runTrace_35 ⟨Nat.le_of_ble_eq_true rfl, Nat.le_of_ble_eq_true rfl⟩ (fun M1 H locs hp hw => ?_)
    obtain ⟨w2, ⟨hw20, -⟩, hC⟩ := hC.trc2 hlen hC.1.2.2.2.2.2.2.2.2.2.2.2.2.2 hp
    refine lv_iconst (v := 0) hx hb dX6_runTrace_38 (by decide) ?_
    refine lv_istore_n (lv' := [(3, .int 0), (2, .int 0), (1, .int (if (fnd T len 120 0).2 = true then -1 else nI (rI T len (ps T len (fnd T len 120 0).1)).2)), (0, .ref (ad 0))]) hx hb dX6_runTrace_39 rfl hl (by decide) rfl (fun ls hl => ?_)
    have hCt : Cl G M _ ad (uF (uF F (nx + 1) (F 0)) 0 (exS T len (F 0) 0).2) ((nx + 1) % 8) (min (ct + 1) 8) fl T len w2 ∧ w2 0 = nI (ps T len 0) := ⟨hC.reF (psh_id F nx), hw20⟩
    have lp40 : ∀ (nn i : Nat), i ≤ 120 → 120 < i + nn → ∀ (x2 : Int32) (w : Nat → Int32) (M1 : HM) (H : Heap) (locs : List Loc) (ls : Array Slot), Wd G (dm M s.heap.size) s.heap M1 H locs → (Cl G M M1 ad (uF (uF F (nx + 1) (F 0)) 0 (exS T len (F 0) i).2) ((nx + 1) % 8) (min (ct + 1) 8) fl T len w ∧ w 0 = nI (ps T len i)) → i ≤ (fnd T len 120 0).1 → x2 = (exS T len (F 0) i).1 → lv_has ls 4 [(3, .int (nI i)), (2, .int x2), (0, .ref (ad 0))] → W p l e (rd 6 0 0) s m args below meth c H locs 0 0 (MQ below (QI G M s.heap.size (fun r M' => r = (s_runTrace (F, nx, ct, fl, T, len)).1 ∧ CL G M M' ad (s_runTrace (F, nx, ct, fl, T, len)).2)) args s 0 0 (dm M s.heap.size)) (F0 m 40 ls []) := by
      intro nn
      induction nn with
      | zero =>
        intro i h1 h2
        exact absurd h2 (by omega)
      | succ nn ih =>
        intro i hi hin x2 w M1 H locs ls hw hCt hiK hx2 hl
        refine lv_iload_n hx hb dX6_runTrace_40 rfl (lv_at hl 0 rfl) ?_
        refine lv_bipush (v := 120) hx hb dX6_runTrace_41 (by decide) ?_
        refine lv_icmp_ge (tgt := 72) hx hb dX6_runTrace_43 (by decide) (fun c43 => ?_) (fun c43 => ?_)
        · exact absurd (ix_ge (b := 120) (by omega) (by decide) c43) (by omega)
        · obtain ⟨hC, ht0⟩ := hCt
          have hI := ((hC.1.sts 0 (by decide)).st).re (uF_at _ _ _)
          have hpi : ps T len i ≤ len := (ps_sk i (fun j hj => hK1 j (by omega))).2.1
          have hlt : i < 120 := by omega
          have hvi : Inv (B + i) (exS T len (F 0) i).2 := hv.xS i (by omega)
          refine lv_aload_n hx hb dX6_runTrace_46 rfl (lv_at hl 2 rfl) ?_
          refine r_get cX inX6 hw hC.1.1 rfl 4 (by decide) wF_X6_34 rfl dX6_runTrace_47 ?_
          refine r_Vi cX hw hC.1.2.2.2.2.2.1 rfl [] (c_X5_readItem l G (pp := ps T len i) (pk := w 1) (itf := w 2) (ita := w 3) (by rw [← ht0]; exact hC.1.2.2.2.2.2.1) hC.1.2.2.2.2.2.2.1 hlen hpi) wM_X6_216 mw_X5_readItem ⟨Nat.le_of_ble_eq_true rfl, Nat.le_of_ble_eq_true rfl⟩ rfl rfl hl.1 (Nat.le_of_ble_eq_true rfl) dX6_runTrace_50 ⟨Nat.le_of_ble_eq_true rfl, Nat.le_of_ble_eq_true rfl⟩ (fun r M1 H locs hp hw => ?_)
          obtain ⟨q1, q2, q3, hqq, hp, hrd⟩ := hp
          obtain ⟨w3, ⟨hw30, hw31, hw32, hw33⟩, hC⟩ := hC.trc2 hlen hqq hp
          have hI := ((hC.1.sts 0 (by decide)).st).re (uF_at _ _ _)
          rw [← hw31, ← hw32, ← hw33] at hrd
          refine lv_if_eq (tgt := 72) hx hb dX6_runTrace_53 (by decide) (fun c53 => ?_) (fun c53 => ?_)
          · have hiK2 : i = (fnd T len 120 0).1 := rt_end hK1 hiK hrd c53
            refine lv_aload_n hx hb dX6_runTrace_72 rfl (lv_at hl 2 rfl) ?_
            refine r_get cX inX6 hw hC.1.1 rfl 4 (by decide) wF_X6_34 rfl dX6_runTrace_73 ?_
            refine r_Vv cX hw hC.1.2.2.2.2.2.1 rfl [] (c_X5_clear l G hC.1.2.2.2.2.2.1 hC.1.2.2.2.2.2.2.1) wM_X6_207 mw_X5_clear ⟨Nat.le_of_ble_eq_true rfl, Nat.le_of_ble_eq_true rfl⟩ rfl rfl hl.1 (Nat.le_of_ble_eq_true rfl) dX6_runTrace_76 ⟨Nat.le_of_ble_eq_true rfl, Nat.le_of_ble_eq_true rfl⟩ (fun M1 H locs hp hw => ?_)
            obtain ⟨w4, -, hC⟩ := hC.trc2 (len' := 0) (by omega) hC.1.2.2.2.2.2.2.2.2.2.2.2.2.2 hp
            refine lv_iload_n hx hb dX6_runTrace_79 rfl (lv_at hl 1 rfl) ?_
            exact r_iret cX hr hlocks hw (by subst hiK2; unfold s_runTrace; (try dsimp only); rw [if_pos hf]; exact ⟨hx2, _, hC⟩) dX6_runTrace_80
          · have hiK2 : i < (fnd T len 120 0).1 := rt_more hK2 hiK hrd c53
            obtain rfl : r = 1 := rt_r1 hrd c53
            refine lv_aload_n hx hb dX6_runTrace_56 rfl (lv_at hl 2 rfl) ?_
            refine r_Vi cX hw hC.1.1 rfl [] (c_X6_runItem l G hC.1 (hvi.re (uF_at _ _ _)) (by omega) hrd) wM_X6_219 mw_X6_runItem ⟨Nat.le_of_ble_eq_true rfl, Nat.le_of_ble_eq_true rfl⟩ rfl rfl hl.1 (Nat.le_of_ble_eq_true rfl) dX6_runTrace_57 ⟨Nat.le_of_ble_eq_true rfl, Nat.le_of_ble_eq_true rfl⟩ (fun r M1 H locs hp hw => ?_)
            obtain ⟨hr1, hp⟩ := hp
            rw [uF_at, uF_uF] at hp
            rw [uF_at] at hr1
            have hC := hC.trans hp
            refine lv_if_eq (tgt := 66) hx hb dX6_runTrace_60 (by decide) (fun c60 => ?_) (fun c60 => ?_)
            · refine lv_iinc (v := (nI (i + 1))) (lv' := [(3, .int (nI (i + 1))), (2, .int x2), (0, .ref (ad 0))]) hx hb dX6_runTrace_66 hl (k := 0) rfl (nI_1 i) (by decide) rfl (fun ls hl => ?_)
              refine lv_goto (tgt := 40) hx hb dX6_runTrace_69 (by decide) ?_
              have hCt := And.intro hC hw30
              exact ih (i + 1) (by omega) (by omega) x2 w3 _ _ _ _ hw hCt hiK2 (by rw [hx2]; exact rt_x0 hr1 c60) (lv_sub hl [0, 1, 2] rfl)
            · refine lv_iinc (v := (x2 + 1)) (lv' := [(2, .int (x2 + 1)), (3, .int (nI i)), (0, .ref (ad 0))]) hx hb dX6_runTrace_63 hl (k := 1) rfl rfl (by decide) rfl (fun ls hl => ?_)
              refine lv_iinc (v := (nI (i + 1))) (lv' := [(3, .int (nI (i + 1))), (2, .int (x2 + 1)), (0, .ref (ad 0))]) hx hb dX6_runTrace_66 hl (k := 1) rfl (nI_1 i) (by decide) rfl (fun ls hl => ?_)
              refine lv_goto (tgt := 40) hx hb dX6_runTrace_69 (by decide) ?_
              have hCt := And.intro hC hw30
              exact ih (i + 1) (by omega) (by omega) (x2 + 1) w3 _ _ _ _ hw hCt hiK2 (by rw [hx2]; exact rt_x1 hr1 c60) (lv_sub hl [0, 1, 2] rfl)
    exact lp40 (120 + 1) 0 (by omega) (by omega) 0 w2 _ _ _ _ hw hCt (Nat.zero_le _) rfl (lv_sub hl [0, 1, 3] rfl)
  · refine lv_bipush (v := (-10)) hx hb dX6_runTrace_13 (by decide) ?_
    refine lv_iload_n hx hb dX6_runTrace_15 rfl (lv_at hl 0 rfl) ?_
    refine lv_isub hx hb dX6_runTrace_16 ?_
    exact r_iret cX hr hlocks hw (by have hf : ¬ (fnd T len 120 0).2 = true := fun h => c10 (if_pos h); unfold s_runTrace; (try dsimp only); rw [if_neg hf, if_neg hf]; exact ⟨rfl, _, hC⟩) dX6_runTrace_17
