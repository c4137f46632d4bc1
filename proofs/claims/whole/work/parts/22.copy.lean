set_option maxHeartbeats 4000000 in
set_option maxRecDepth 100000 in
theorem c_X4_reset (l : Launch) (G : gG) {M : HM} {L : Nat → Nat} {f : Nat → Int32} {x0 x1 x2 x3 x4 x5 x6 x7 x8 : Int32} (h0 : IsS0 G M L f) (hM : M (L 0) = some (.inr (4, [.int x0, .int x1, .int x2, .int x3, .int x4, .int x5, .int x6, .int x7, .int x8, .ref (L 1), .ref (L 2), .ref (L 3)]))) (P0 E0 : Int32) : Cv l yX4_reset cX4_reset 4 (rd 1 0 0) G [.ref (L 0), .int P0, .int E0] M (fun M' => St G M M' L (iniF P0 E0)) := by
  refine Cv.of (by decide) (Nat.le_of_ble_eq_true rfl) ?_
  intro p e s m args below meth c ls cX hw hlocks hr hnm hl
  have hx := cX.1
  have hb := cX.2.1
  have hl : lv_has ls 4 [(0, .ref (L 0)), (1, .int P0), (2, .int E0)] := hl
  refine lv_aload_n hx hb dX4_reset_0 rfl (lv_at hl 0 rfl) ?_
  refine lv_iload_n hx hb dX4_reset_1 rfl (lv_at hl 1 rfl) ?_
  refine r_put (fs' := [.int P0, .int x1, .int x2, .int x3, .int x4, .int x5, .int x6, .int x7, .int x8, .ref (L 1), .ref (L 2), .ref (L 3)]) cX inX4 tyX4 tyX4_ok nmX4 hw hM rfl 0 (by decide) wF_X4_36 rfl rfl rfl rfl (Nat.le_of_ble_eq_true rfl) dX4_reset_2 (fun H locs hw => ?_)
  refine lv_aload_n hx hb dX4_reset_5 rfl (lv_at hl 0 rfl) ?_
  refine lv_iload_n hx hb dX4_reset_6 rfl (lv_at hl 2 rfl) ?_
  refine r_put (fs' := [.int P0, .int E0, .int x2, .int x3, .int x4, .int x5, .int x6, .int x7, .int x8, .ref (L 1), .ref (L 2), .ref (L 3)]) cX inX4 tyX4 tyX4_ok nmX4 hw (mu_at _ _ _) rfl 1 (by decide) wF_X4_40 rfl rfl rfl rfl (Nat.le_of_ble_eq_true rfl) dX4_reset_7 (fun H locs hw => ?_)
  rw [mu_mu] at hw
  refine lv_aload_n hx hb dX4_reset_10 rfl (lv_at hl 0 rfl) ?_
  refine lv_iconst (v := 0) hx hb dX4_reset_11 (by decide) ?_
  refine r_put (fs' := [.int P0, .int E0, .int 0, .int x3, .int x4, .int x5, .int x6, .int x7, .int x8, .ref (L 1), .ref (L 2), .ref (L 3)]) cX inX4 tyX4 tyX4_ok nmX4 hw (mu_at _ _ _) rfl 2 (by decide) wF_X4_43 rfl rfl rfl rfl (Nat.le_of_ble_eq_true rfl) dX4_reset_12 (fun H locs hw => ?_)
  rw [mu_mu] at hw
  refine lv_aload_n hx hb dX4_reset_15 rfl (lv_at hl 0 rfl) ?_
  refine lv_iconst (v := 1) hx hb dX4_reset_16 (by decide) ?_
  refine r_put (fs' := [.int P0, .int E0, .int 0, .int 1, .int x4, .int x5, .int x6, .int x7, .int x8, .ref (L 1), .ref (L 2), .ref (L 3)]) cX inX4 tyX4 tyX4_ok nmX4 hw (mu_at _ _ _) rfl 3 (by decide) wF_X4_46 rfl rfl rfl rfl (Nat.le_of_ble_eq_true rfl) dX4_reset_17 (fun H locs hw => ?_)
  rw [mu_mu] at hw
  refine lv_aload_n hx hb dX4_reset_20 rfl (lv_at hl 0 rfl) ?_
  refine lv_iconst (v := 0) hx hb dX4_reset_21 (by decide) ?_
  refine r_put (fs' := [.int P0, .int E0, .int 0, .int 1, .int 0, .int x5, .int x6, .int x7, .int x8, .ref (L 1), .ref (L 2), .ref (L 3)]) cX inX4 tyX4 tyX4_ok nmX4 hw (mu_at _ _ _) rfl 4 (by decide) wF_X4_49 rfl rfl rfl rfl (Nat.le_of_ble_eq_true rfl) dX4_reset_22 (fun H locs hw => ?_)
  rw [mu_mu] at hw
  refine lv_aload_n hx hb dX4_reset_25 rfl (lv_at hl 0 rfl) ?_
  refine lv_bipush (v := 20) hx hb dX4_reset_26 (by decide) ?_
  refine r_put (fs' := [.int P0, .int E0, .int 0, .int 1, .int 0, .int 20, .int x6, .int x7, .int x8, .ref (L 1), .ref (L 2), .ref (L 3)]) cX inX4 tyX4 tyX4_ok nmX4 hw (mu_at _ _ _) rfl 5 (by decide) wF_X4_52 rfl rfl rfl rfl (Nat.le_of_ble_eq_true rfl) dX4_reset_28 (fun H locs hw => ?_)
  rw [mu_mu] at hw
  refine lv_aload_n hx hb dX4_reset_31 rfl (lv_at hl 0 rfl) ?_
  refine lv_iconst (v := 2) hx hb dX4_reset_32 (by decide) ?_
  refine r_put (fs' := [.int P0, .int E0, .int 0, .int 1, .int 0, .int 20, .int 2, .int x7, .int x8, .ref (L 1), .ref (L 2), .ref (L 3)]) cX inX4 tyX4 tyX4_ok nmX4 hw (mu_at _ _ _) rfl 6 (by decide) wF_X4_55 rfl rfl rfl rfl (Nat.le_of_ble_eq_true rfl) dX4_reset_33 (fun H locs hw => ?_)
  rw [mu_mu] at hw
  refine lv_aload_n hx hb dX4_reset_36 rfl (lv_at hl 0 rfl) ?_
  refine lv_iconst (v := 1) hx hb dX4_reset_37 (by decide) ?_
  refine r_put (fs' := [.int P0, .int E0, .int 0, .int 1, .int 0, .int 20, .int 2, .int 1, .int x8, .ref (L 1), .ref (L 2), .ref (L 3)]) cX inX4 tyX4 tyX4_ok nmX4 hw (mu_at _ _ _) rfl 7 (by decide) wF_X4_58 rfl rfl rfl rfl (Nat.le_of_ble_eq_true rfl) dX4_reset_38 (fun H locs hw => ?_)
  rw [mu_mu] at hw
  refine lv_aload_n hx hb dX4_reset_41 rfl (lv_at hl 0 rfl) ?_
  refine lv_iconst (v := 0) hx hb dX4_reset_42 (by decide) ?_
  refine r_put (fs' := [.int P0, .int E0, .int 0, .int 1, .int 0, .int 20, .int 2, .int 1, .int 0, .ref (L 1), .ref (L 2), .ref (L 3)]) cX inX4 tyX4 tyX4_ok nmX4 hw (mu_at _ _ _) rfl 8 (by decide) wF_X4_61 rfl rfl rfl rfl (Nat.le_of_ble_eq_true rfl) dX4_reset_43 (fun H locs hw => ?_)
  rw [mu_mu] at hw
  have hI := h0.st (g := iniF P0 E0) (Off.rf M L) (fs := [.int P0, .int E0, .int 0, .int 1, .int 0, .int 20, .int 2, .int 1, .int 0, .ref (L 1), .ref (L 2), .ref (L 3)]) (by simp [stFs, mxS, iniF, tnOf, jr_0])
  refine lv_iconst (v := 0) hx hb dX4_reset_46 (by decide) ?_
  refine lv_istore_n (lv' := [(3, .int 0), (0, .ref (L 0)), (1, .int P0), (2, .int E0)]) hx hb dX4_reset_47 rfl hl (by decide) rfl (fun ls hl => ?_)
  have lp48 : ∀ (nn i : Nat), i ≤ 4 → 4 < i + nn → ∀ (g : Nat → Int32) (M1 : HM) (H : Heap) (locs : List Loc) (ls : Array Slot), Wd G (dm M s.heap.size) s.heap M1 H locs → St G M M1 L g → (∀ k, k < 153 → (k < 9 ∨ (9 ≤ k ∧ k < 41 ∧ (k - 9) % 4 < i)) → g k = (iniF P0 E0) k) → lv_has ls 4 [(3, .int (nI i)), (2, .int E0), (1, .int P0), (0, .ref (L 0))] → W p l e (rd 1 0 0) s m args below meth c H locs 0 0 (MQ below (QV G M s.heap.size (fun M' => St G M M' L (iniF P0 E0))) args s 0 0 (dm M s.heap.size)) (F0 m 48 ls []) := by
    intro nn
    induction nn with
    | zero =>
      intro i h1 h2
      exact absurd h2 (by omega)
    | succ nn ih =>
      intro i hi hin g M1 H locs ls hw hI hA hl
      refine lv_iload_n hx hb dX4_reset_48 rfl (lv_at hl 0 rfl) ?_
      refine lv_iconst (v := 4) hx hb dX4_reset_49 (by decide) ?_
      refine lv_icmp_ge (tgt := 68) hx hb dX4_reset_50 (by decide) (fun c50 => ?_) (fun c50 => ?_)
      · obtain rfl : i = 4 := Nat.le_antisymm hi (ix_ge (b := 4) (by omega) (by decide) c50)
        refine lv_iconst (v := 0) hx hb dX4_reset_68 (by decide) ?_
        refine lv_istore_n (lv' := [(3, .int 0), (2, .int E0), (1, .int P0), (0, .ref (L 0))]) hx hb dX4_reset_69 rfl hl (by decide) rfl (fun ls hl => ?_)
        have lp70 : ∀ (nn i : Nat), i ≤ 8 → 8 < i + nn → ∀ (g : Nat → Int32) (M1 : HM) (H : Heap) (locs : List Loc) (ls : Array Slot), Wd G (dm M s.heap.size) s.heap M1 H locs → St G M M1 L g → (∀ k, k < 153 → (k < 41 ∨ (41 ≤ k ∧ k < 73 ∧ (k - 41) % 8 < i)) → g k = (iniF P0 E0) k) → lv_has ls 4 [(3, .int (nI i)), (2, .int E0), (1, .int P0), (0, .ref (L 0))] → W p l e (rd 1 0 0) s m args below meth c H locs 0 0 (MQ below (QV G M s.heap.size (fun M' => St G M M' L (iniF P0 E0))) args s 0 0 (dm M s.heap.size)) (F0 m 70 ls []) := by
          intro nn
          induction nn with
          | zero =>
            intro i h1 h2
            exact absurd h2 (by omega)
          | succ nn ih =>
            intro i hi hin g M1 H locs ls hw hI hA hl
            refine lv_iload_n hx hb dX4_reset_70 rfl (lv_at hl 0 rfl) ?_
            refine lv_bipush (v := 8) hx hb dX4_reset_71 (by decide) ?_
            refine lv_icmp_ge (tgt := 91) hx hb dX4_reset_73 (by decide) (fun c73 => ?_) (fun c73 => ?_)
            · obtain rfl : i = 8 := Nat.le_antisymm hi (ix_ge (b := 8) (by omega) (by decide) c73)
              refine lv_iconst (v := 0) hx hb dX4_reset_91 (by decide) ?_
              refine lv_istore_n (lv' := [(3, .int 0), (2, .int E0), (1, .int P0), (0, .ref (L 0))]) hx hb dX4_reset_92 rfl hl (by decide) rfl (fun ls hl => ?_)
              have lp93 : ∀ (nn i : Nat), i ≤ 16 → 16 < i + nn → ∀ (g : Nat → Int32) (M1 : HM) (H : Heap) (locs : List Loc) (ls : Array Slot), Wd G (dm M s.heap.size) s.heap M1 H locs → St G M M1 L g → (∀ k, k < 153 → (k < 73 ∨ (73 ≤ k ∧ (k - 73) % 16 < i)) → g k = (iniF P0 E0) k) → lv_has ls 4 [(3, .int (nI i)), (2, .int E0), (1, .int P0), (0, .ref (L 0))] → W p l e (rd 1 0 0) s m args below meth c H locs 0 0 (MQ below (QV G M s.heap.size (fun M' => St G M M' L (iniF P0 E0))) args s 0 0 (dm M s.heap.size)) (F0 m 93 ls []) := by
                intro nn
                induction nn with
                | zero =>
                  intro i h1 h2
                  exact absurd h2 (by omega)
                | succ nn ih =>
                  intro i hi hin g M1 H locs ls hw hI hA hl
                  refine lv_iload_n hx hb dX4_reset_93 rfl (lv_at hl 0 rfl) ?_
                  refine lv_bipush (v := 16) hx hb dX4_reset_94 (by decide) ?_
                  refine lv_icmp_ge (tgt := 114) hx hb dX4_reset_96 (by decide) (fun c96 => ?_) (fun c96 => ?_)
                  · obtain rfl : i = 16 := Nat.le_antisymm hi (ix_ge (b := 16) (by omega) (by decide) c96)
                    exact r_vret cX hr hlocks hw (hI.ext (fun k hk => hA k hk (by omega))) dX4_reset_114
                  · have hlt : i < 16 := ix_lt (b := 16) (by omega) c96
                    refine lv_aload_n hx hb dX4_reset_99 rfl (lv_at hl 3 rfl) ?_
                    refine r_get cX inX4 hw hI.1.1 rfl 11 (by decide) wF_X4_25 rfl dX4_reset_100 ?_
                    refine lv_iload_n hx hb dX4_reset_103 rfl (lv_at hl 0 rfl) ?_
                    obtain ⟨g_19, hg_19, hg_19_⟩ := hI.1.2.2.2.1
                    refine r_aald cX hw 3 rfl hg_19 i rfl hlt (by decide) (hg_19_ i hlt) dX4_reset_104 ?_
                    refine r_Vv cX hw (hI.1.2.2.2.2.2.2.1 i hlt) rfl [] (c_X1_reset l G (hI.1.2.2.2.2.2.2.1 i hlt)) wM_X4_67 mw_X1_reset ⟨Nat.le_of_ble_eq_true rfl, Nat.le_of_ble_eq_true rfl⟩ rfl rfl hl.1 (Nat.le_of_ble_eq_true rfl) dX4_reset_105 ⟨Nat.le_of_ble_eq_true rfl, Nat.le_of_ble_eq_true rfl⟩ (fun M1 H locs hp hw => ?_)
                    rw [← flFs_ini P0 E0 i hlt] at hp
                    subst hp
                    have hI := hI.mF (iniF P0 E0) i hlt
                    refine lv_iinc (v := (nI (i + 1))) (lv' := [(3, .int (nI (i + 1))), (2, .int E0), (1, .int P0), (0, .ref (L 0))]) hx hb dX4_reset_108 hl (k := 0) rfl (nI_1 i) (by decide) rfl (fun ls hl => ?_)
                    refine lv_goto (tgt := 93) hx hb dX4_reset_111 (by decide) ?_
                    exact ih (i + 1) (by omega) (by omega) (mxF (iniF P0 E0) g i) _ _ _ _ hw hI (fun k hk hd => by unfold mxF; split <;> first | rfl | exact hA k hk (by omega)) (lv_sub hl [0, 1, 2, 3] rfl)
              exact lp93 (16 + 1) 0 (by omega) (by omega) g _ _ _ _ hw hI (fun k hk hd => hA k hk (by omega)) (lv_sub hl [0, 1, 2, 3] rfl)
            · have hlt : i < 8 := ix_lt (b := 8) (by omega) c73
              refine lv_aload_n hx hb dX4_reset_76 rfl (lv_at hl 3 rfl) ?_
              refine r_get cX inX4 hw hI.1.1 rfl 10 (by decide) wF_X4_19 rfl dX4_reset_77 ?_
              refine lv_iload_n hx hb dX4_reset_80 rfl (lv_at hl 0 rfl) ?_
              obtain ⟨g_20, hg_20, hg_20_⟩ := hI.1.2.2.1
              refine r_aald cX hw 2 rfl hg_20 i rfl hlt (by decide) (hg_20_ i hlt) dX4_reset_81 ?_
              refine r_Vv cX hw (hI.1.2.2.2.2.2.1 i hlt) rfl [] (c_X0_reset l G (hI.1.2.2.2.2.2.1 i hlt)) wM_X4_66 mw_X0_reset ⟨Nat.le_of_ble_eq_true rfl, Nat.le_of_ble_eq_true rfl⟩ rfl rfl hl.1 (Nat.le_of_ble_eq_true rfl) dX4_reset_82 ⟨Nat.le_of_ble_eq_true rfl, Nat.le_of_ble_eq_true rfl⟩ (fun M1 H locs hp hw => ?_)
              rw [← enFs_ini P0 E0 i hlt] at hp
              subst hp
              have hI := hI.mE (iniF P0 E0) i hlt (Or.inl (ini_v P0 E0 i hlt))
              refine lv_iinc (v := (nI (i + 1))) (lv' := [(3, .int (nI (i + 1))), (2, .int E0), (1, .int P0), (0, .ref (L 0))]) hx hb dX4_reset_85 hl (k := 0) rfl (nI_1 i) (by decide) rfl (fun ls hl => ?_)
              refine lv_goto (tgt := 70) hx hb dX4_reset_88 (by decide) ?_
              exact ih (i + 1) (by omega) (by omega) (mxE (iniF P0 E0) g i) _ _ _ _ hw hI (fun k hk hd => by unfold mxE; split <;> first | rfl | exact hA k hk (by omega)) (lv_sub hl [0, 1, 2, 3] rfl)
        exact lp70 (8 + 1) 0 (by omega) (by omega) g _ _ _ _ hw hI (fun k hk hd => hA k hk (by omega)) (lv_sub hl [0, 1, 2, 3] rfl)
      · have hlt : i < 4 := ix_lt (b := 4) (by omega) c50
        refine lv_aload_n hx hb dX4_reset_53 rfl (lv_at hl 3 rfl) ?_
        refine r_get cX inX4 hw hI.1.1 rfl 9 (by decide) wF_X4_11 rfl dX4_reset_54 ?_
        refine lv_iload_n hx hb dX4_reset_57 rfl (lv_at hl 0 rfl) ?_
        obtain ⟨g_21, hg_21, hg_21_⟩ := hI.1.2.1
        refine r_aald cX hw 4 rfl hg_21 i rfl hlt (by decide) (hg_21_ i hlt) dX4_reset_58 ?_
        refine r_Vv cX hw (hI.1.2.2.2.2.1 i hlt) rfl [] (c_X2_reset l G (hI.1.2.2.2.2.1 i hlt)) wM_X4_64 mw_X2_reset ⟨Nat.le_of_ble_eq_true rfl, Nat.le_of_ble_eq_true rfl⟩ rfl rfl hl.1 (Nat.le_of_ble_eq_true rfl) dX4_reset_59 ⟨Nat.le_of_ble_eq_true rfl, Nat.le_of_ble_eq_true rfl⟩ (fun M1 H locs hp hw => ?_)
        rw [← paFs_ini P0 E0 i hlt] at hp
        subst hp
        have hI := hI.mP (iniF P0 E0) i hlt
        refine lv_iinc (v := (nI (i + 1))) (lv' := [(3, .int (nI (i + 1))), (2, .int E0), (1, .int P0), (0, .ref (L 0))]) hx hb dX4_reset_62 hl (k := 0) rfl (nI_1 i) (by decide) rfl (fun ls hl => ?_)
        refine lv_goto (tgt := 48) hx hb dX4_reset_65 (by decide) ?_
        exact ih (i + 1) (by omega) (by omega) (mxP (iniF P0 E0) g i) _ _ _ _ hw hI (fun k hk hd => by unfold mxP; split <;> first | rfl | exact hA k hk (by omega)) (lv_sub hl [0, 1, 2, 3] rfl)
  exact lp48 (4 + 1) 0 (by omega) (by omega) (mxS (iniF P0 E0) f) _ _ _ _ hw hI (fun k hk hd => by unfold mxS; rw [if_pos (by omega)]) (lv_sub hl [0, 3, 2, 1] rfl)

set_option maxHeartbeats 4000000 in
set_option maxRecDepth 100000 in
theorem c_X4_copyFrom (l : Launch) (G : gG) {M : HM} {L : Nat → Nat} {f : Nat → Int32} (hI0 : IsSt G M L f) {Lb : Nat → Nat} {t : Nat → Int32} (hJ : IsSt G M Lb t) (hd : ∀ i j, i < 32 → j < 32 → L i ≠ Lb j) : Cv l yX4_copyFrom cX4_copyFrom 3 (rd 1 0 0) G [.ref (L 0), .ref (Lb 0)] M (fun M' => St G M M' L (t)) := by
  refine Cv.of (by decide) (Nat.le_of_ble_eq_true rfl) ?_
  intro p e s m args below meth c ls cX hw hlocks hr hnm hl
  have hx := cX.1
  have hb := cX.2.1
  have hl : lv_has ls 3 [(0, .ref (L 0)), (1, .ref (Lb 0))] := hl
  have hI := hI0.st
  refine lv_aload_n hx hb dX4_copyFrom_0 rfl (lv_at hl 0 rfl) ?_
  refine lv_aload_n hx hb dX4_copyFrom_1 rfl (lv_at hl 1 rfl) ?_
  refine r_get cX inX4 hw hJ.1 rfl 0 (by decide) wF_X4_36 rfl dX4_copyFrom_2 ?_
  refine r_put (fs' := [.int (t 1), .int (f 2), .int (f 0), .int (f 5), .int (f 4), .int (f 3), .int (f 6), .int (f 7), .int (tnOf f), .ref (L 1), .ref (L 2), .ref (L 3)]) cX inX4 tyX4 tyX4_ok nmX4 hw hI0.1 rfl 0 (by decide) wF_X4_36 rfl rfl rfl rfl (Nat.le_of_ble_eq_true rfl) dX4_copyFrom_5 (fun H locs hw => ?_)
  refine lv_aload_n hx hb dX4_copyFrom_8 rfl (lv_at hl 0 rfl) ?_
  refine lv_aload_n hx hb dX4_copyFrom_9 rfl (lv_at hl 1 rfl) ?_
  refine r_get cX inX4 hw ((mu_ne _ _ (fun q => hd 0 0 (by decide) (by decide) q.symm)).trans hJ.1) rfl 1 (by decide) wF_X4_40 rfl dX4_copyFrom_10 ?_
  refine r_put (fs' := [.int (t 1), .int (t 2), .int (f 0), .int (f 5), .int (f 4), .int (f 3), .int (f 6), .int (f 7), .int (tnOf f), .ref (L 1), .ref (L 2), .ref (L 3)]) cX inX4 tyX4 tyX4_ok nmX4 hw (mu_at _ _ _) rfl 1 (by decide) wF_X4_40 rfl rfl rfl rfl (Nat.le_of_ble_eq_true rfl) dX4_copyFrom_13 (fun H locs hw => ?_)
  rw [mu_mu] at hw
  refine lv_aload_n hx hb dX4_copyFrom_16 rfl (lv_at hl 0 rfl) ?_
  refine lv_aload_n hx hb dX4_copyFrom_17 rfl (lv_at hl 1 rfl) ?_
  refine r_get cX inX4 hw ((mu_ne _ _ (fun q => hd 0 0 (by decide) (by decide) q.symm)).trans hJ.1) rfl 2 (by decide) wF_X4_43 rfl dX4_copyFrom_18 ?_
  refine r_put (fs' := [.int (t 1), .int (t 2), .int (t 0), .int (f 5), .int (f 4), .int (f 3), .int (f 6), .int (f 7), .int (tnOf f), .ref (L 1), .ref (L 2), .ref (L 3)]) cX inX4 tyX4 tyX4_ok nmX4 hw (mu_at _ _ _) rfl 2 (by decide) wF_X4_43 rfl rfl rfl rfl (Nat.le_of_ble_eq_true rfl) dX4_copyFrom_21 (fun H locs hw => ?_)
  rw [mu_mu] at hw
  refine lv_aload_n hx hb dX4_copyFrom_24 rfl (lv_at hl 0 rfl) ?_
  refine lv_aload_n hx hb dX4_copyFrom_25 rfl (lv_at hl 1 rfl) ?_
  refine r_get cX inX4 hw ((mu_ne _ _ (fun q => hd 0 0 (by decide) (by decide) q.symm)).trans hJ.1) rfl 3 (by decide) wF_X4_46 rfl dX4_copyFrom_26 ?_
  refine r_put (fs' := [.int (t 1), .int (t 2), .int (t 0), .int (t 5), .int (f 4), .int (f 3), .int (f 6), .int (f 7), .int (tnOf f), .ref (L 1), .ref (L 2), .ref (L 3)]) cX inX4 tyX4 tyX4_ok nmX4 hw (mu_at _ _ _) rfl 3 (by decide) wF_X4_46 rfl rfl rfl rfl (Nat.le_of_ble_eq_true rfl) dX4_copyFrom_29 (fun H locs hw => ?_)
  rw [mu_mu] at hw
  refine lv_aload_n hx hb dX4_copyFrom_32 rfl (lv_at hl 0 rfl) ?_
  refine lv_aload_n hx hb dX4_copyFrom_33 rfl (lv_at hl 1 rfl) ?_
  refine r_get cX inX4 hw ((mu_ne _ _ (fun q => hd 0 0 (by decide) (by decide) q.symm)).trans hJ.1) rfl 4 (by decide) wF_X4_49 rfl dX4_copyFrom_34 ?_
  refine r_put (fs' := [.int (t 1), .int (t 2), .int (t 0), .int (t 5), .int (t 4), .int (f 3), .int (f 6), .int (f 7), .int (tnOf f), .ref (L 1), .ref (L 2), .ref (L 3)]) cX inX4 tyX4 tyX4_ok nmX4 hw (mu_at _ _ _) rfl 4 (by decide) wF_X4_49 rfl rfl rfl rfl (Nat.le_of_ble_eq_true rfl) dX4_copyFrom_37 (fun H locs hw => ?_)
  rw [mu_mu] at hw
  refine lv_aload_n hx hb dX4_copyFrom_40 rfl (lv_at hl 0 rfl) ?_
  refine lv_aload_n hx hb dX4_copyFrom_41 rfl (lv_at hl 1 rfl) ?_
  refine r_get cX inX4 hw ((mu_ne _ _ (fun q => hd 0 0 (by decide) (by decide) q.symm)).trans hJ.1) rfl 5 (by decide) wF_X4_52 rfl dX4_copyFrom_42 ?_
  refine r_put (fs' := [.int (t 1), .int (t 2), .int (t 0), .int (t 5), .int (t 4), .int (t 3), .int (f 6), .int (f 7), .int (tnOf f), .ref (L 1), .ref (L 2), .ref (L 3)]) cX inX4 tyX4 tyX4_ok nmX4 hw (mu_at _ _ _) rfl 5 (by decide) wF_X4_52 rfl rfl rfl rfl (Nat.le_of_ble_eq_true rfl) dX4_copyFrom_45 (fun H locs hw => ?_)
  rw [mu_mu] at hw
  refine lv_aload_n hx hb dX4_copyFrom_48 rfl (lv_at hl 0 rfl) ?_
  refine lv_aload_n hx hb dX4_copyFrom_49 rfl (lv_at hl 1 rfl) ?_
  refine r_get cX inX4 hw ((mu_ne _ _ (fun q => hd 0 0 (by decide) (by decide) q.symm)).trans hJ.1) rfl 6 (by decide) wF_X4_55 rfl dX4_copyFrom_50 ?_
  refine r_put (fs' := [.int (t 1), .int (t 2), .int (t 0), .int (t 5), .int (t 4), .int (t 3), .int (t 6), .int (f 7), .int (tnOf f), .ref (L 1), .ref (L 2), .ref (L 3)]) cX inX4 tyX4 tyX4_ok nmX4 hw (mu_at _ _ _) rfl 6 (by decide) wF_X4_55 rfl rfl rfl rfl (Nat.le_of_ble_eq_true rfl) dX4_copyFrom_53 (fun H locs hw => ?_)
  rw [mu_mu] at hw
  refine lv_aload_n hx hb dX4_copyFrom_56 rfl (lv_at hl 0 rfl) ?_
  refine lv_aload_n hx hb dX4_copyFrom_57 rfl (lv_at hl 1 rfl) ?_
  refine r_get cX inX4 hw ((mu_ne _ _ (fun q => hd 0 0 (by decide) (by decide) q.symm)).trans hJ.1) rfl 7 (by decide) wF_X4_58 rfl dX4_copyFrom_58 ?_
  refine r_put (fs' := [.int (t 1), .int (t 2), .int (t 0), .int (t 5), .int (t 4), .int (t 3), .int (t 6), .int (t 7), .int (tnOf f), .ref (L 1), .ref (L 2), .ref (L 3)]) cX inX4 tyX4 tyX4_ok nmX4 hw (mu_at _ _ _) rfl 7 (by decide) wF_X4_58 rfl rfl rfl rfl (Nat.le_of_ble_eq_true rfl) dX4_copyFrom_61 (fun H locs hw => ?_)
  rw [mu_mu] at hw
  refine lv_aload_n hx hb dX4_copyFrom_64 rfl (lv_at hl 0 rfl) ?_
  refine lv_aload_n hx hb dX4_copyFrom_65 rfl (lv_at hl 1 rfl) ?_
  refine r_get cX inX4 hw ((mu_ne _ _ (fun q => hd 0 0 (by decide) (by decide) q.symm)).trans hJ.1) rfl 8 (by decide) wF_X4_61 rfl dX4_copyFrom_66 ?_
  refine r_put (fs' := [.int (t 1), .int (t 2), .int (t 0), .int (t 5), .int (t 4), .int (t 3), .int (t 6), .int (t 7), .int (tnOf t), .ref (L 1), .ref (L 2), .ref (L 3)]) cX inX4 tyX4 tyX4_ok nmX4 hw (mu_at _ _ _) rfl 8 (by decide) wF_X4_61 rfl rfl rfl rfl (Nat.le_of_ble_eq_true rfl) dX4_copyFrom_69 (fun H locs hw => ?_)
  rw [mu_mu] at hw
  have hI := hI0.s0.st (g := t) (Off.rf M L) (fs := [.int (t 1), .int (t 2), .int (t 0), .int (t 5), .int (t 4), .int (t 3), .int (t 6), .int (t 7), .int (tnOf t), .ref (L 1), .ref (L 2), .ref (L 3)]) rfl
  refine lv_iconst (v := 0) hx hb dX4_copyFrom_72 (by decide) ?_
  refine lv_istore_n (lv' := [(2, .int 0), (0, .ref (L 0)), (1, .ref (Lb 0))]) hx hb dX4_copyFrom_73 rfl hl (by decide) rfl (fun ls hl => ?_)
  have lp74 : ∀ (nn i : Nat), i ≤ 4 → 4 < i + nn → ∀ (g : Nat → Int32) (M1 : HM) (H : Heap) (locs : List Loc) (ls : Array Slot), Wd G (dm M s.heap.size) s.heap M1 H locs → St G M M1 L g → (∀ k, k < 153 → (k < 9 ∨ (9 ≤ k ∧ k < 41 ∧ (k - 9) % 4 < i)) → g k = t k) → lv_has ls 3 [(2, .int (nI i)), (1, .ref (Lb 0)), (0, .ref (L 0))] → W p l e (rd 1 0 0) s m args below meth c H locs 0 0 (MQ below (QV G M s.heap.size (fun M' => St G M M' L (t))) args s 0 0 (dm M s.heap.size)) (F0 m 74 ls []) := by
    intro nn
    induction nn with
    | zero =>
      intro i h1 h2
      exact absurd h2 (by omega)
    | succ nn ih =>
      intro i hi hin g M1 H locs ls hw hI hA hl
      refine lv_iload_n hx hb dX4_copyFrom_74 rfl (lv_at hl 0 rfl) ?_
      refine lv_iconst (v := 4) hx hb dX4_copyFrom_75 (by decide) ?_
      refine lv_icmp_ge (tgt := 100) hx hb dX4_copyFrom_76 (by decide) (fun c76 => ?_) (fun c76 => ?_)
      · obtain rfl : i = 4 := Nat.le_antisymm hi (ix_ge (b := 4) (by omega) (by decide) c76)
        refine lv_iconst (v := 0) hx hb dX4_copyFrom_100 (by decide) ?_
        refine lv_istore_n (lv' := [(2, .int 0), (1, .ref (Lb 0)), (0, .ref (L 0))]) hx hb dX4_copyFrom_101 rfl hl (by decide) rfl (fun ls hl => ?_)
        have lp102 : ∀ (nn i : Nat), i ≤ 8 → 8 < i + nn → ∀ (g : Nat → Int32) (M1 : HM) (H : Heap) (locs : List Loc) (ls : Array Slot), Wd G (dm M s.heap.size) s.heap M1 H locs → St G M M1 L g → (∀ k, k < 153 → (k < 41 ∨ (41 ≤ k ∧ k < 73 ∧ (k - 41) % 8 < i)) → g k = t k) → lv_has ls 3 [(2, .int (nI i)), (1, .ref (Lb 0)), (0, .ref (L 0))] → W p l e (rd 1 0 0) s m args below meth c H locs 0 0 (MQ below (QV G M s.heap.size (fun M' => St G M M' L (t))) args s 0 0 (dm M s.heap.size)) (F0 m 102 ls []) := by
          intro nn
          induction nn with
          | zero =>
            intro i h1 h2
            exact absurd h2 (by omega)
          | succ nn ih =>
            intro i hi hin g M1 H locs ls hw hI hA hl
            refine lv_iload_n hx hb dX4_copyFrom_102 rfl (lv_at hl 0 rfl) ?_
            refine lv_bipush (v := 8) hx hb dX4_copyFrom_103 (by decide) ?_
            refine lv_icmp_ge (tgt := 129) hx hb dX4_copyFrom_105 (by decide) (fun c105 => ?_) (fun c105 => ?_)
            · obtain rfl : i = 8 := Nat.le_antisymm hi (ix_ge (b := 8) (by omega) (by decide) c105)
              refine lv_iconst (v := 0) hx hb dX4_copyFrom_129 (by decide) ?_
              refine lv_istore_n (lv' := [(2, .int 0), (1, .ref (Lb 0)), (0, .ref (L 0))]) hx hb dX4_copyFrom_130 rfl hl (by decide) rfl (fun ls hl => ?_)
              have lp131 : ∀ (nn i : Nat), i ≤ 16 → 16 < i + nn → ∀ (g : Nat → Int32) (M1 : HM) (H : Heap) (locs : List Loc) (ls : Array Slot), Wd G (dm M s.heap.size) s.heap M1 H locs → St G M M1 L g → (∀ k, k < 153 → (k < 73 ∨ (73 ≤ k ∧ (k - 73) % 16 < i)) → g k = t k) → lv_has ls 3 [(2, .int (nI i)), (1, .ref (Lb 0)), (0, .ref (L 0))] → W p l e (rd 1 0 0) s m args below meth c H locs 0 0 (MQ below (QV G M s.heap.size (fun M' => St G M M' L (t))) args s 0 0 (dm M s.heap.size)) (F0 m 131 ls []) := by
                intro nn
                induction nn with
                | zero =>
                  intro i h1 h2
                  exact absurd h2 (by omega)
                | succ nn ih =>
                  intro i hi hin g M1 H locs ls hw hI hA hl
                  refine lv_iload_n hx hb dX4_copyFrom_131 rfl (lv_at hl 0 rfl) ?_
                  refine lv_bipush (v := 16) hx hb dX4_copyFrom_132 (by decide) ?_
                  refine lv_icmp_ge (tgt := 158) hx hb dX4_copyFrom_134 (by decide) (fun c134 => ?_) (fun c134 => ?_)
                  · obtain rfl : i = 16 := Nat.le_antisymm hi (ix_ge (b := 16) (by omega) (by decide) c134)
                    exact r_vret cX hr hlocks hw (hI.ext (fun k hk => hA k hk (by omega))) dX4_copyFrom_158
                  · have hlt : i < 16 := ix_lt (b := 16) (by omega) c134
                    have hB : ∀ j, j < 32 → M1 (Lb j) = M (Lb j) := fun j hj => hI.2 _ (fun i hi q => hd i j hi hj q.symm)
                    refine lv_aload_n hx hb dX4_copyFrom_137 rfl (lv_at hl 2 rfl) ?_
                    refine r_get cX inX4 hw hI.1.1 rfl 11 (by decide) wF_X4_25 rfl dX4_copyFrom_138 ?_
                    refine lv_iload_n hx hb dX4_copyFrom_141 rfl (lv_at hl 0 rfl) ?_
                    obtain ⟨g_22, hg_22, hg_22_⟩ := hI.1.2.2.2.1
                    refine r_aald cX hw 3 rfl hg_22 i rfl hlt (by decide) (hg_22_ i hlt) dX4_copyFrom_142 ?_
                    refine lv_aload_n hx hb dX4_copyFrom_143 rfl (lv_at hl 1 rfl) ?_
                    refine r_get cX inX4 hw ((hB 0 (by decide)).trans hJ.1) rfl 11 (by decide) wF_X4_25 rfl dX4_copyFrom_144 ?_
                    refine lv_iload_n hx hb dX4_copyFrom_147 rfl (lv_at hl 0 rfl) ?_
                    obtain ⟨g_23, hg_23, hg_23_⟩ := hJ.2.2.2.1
                    refine r_aald cX hw 3 rfl ((hB 3 (by decide)).trans hg_23) i rfl hlt (by decide) (hg_23_ i hlt) dX4_copyFrom_148 ?_
                    refine r_Vv cX hw (hI.1.2.2.2.2.2.2.1 i hlt) rfl [.ref (Lb (16 + i))] (c_X1_copyFrom l G (hI.1.2.2.2.2.2.2.1 i hlt) ((hB (16 + i) (by omega)).trans (hJ.2.2.2.2.2.2.1 i hlt)) (fun q => hd (16 + i) (16 + i) (by omega) (by omega) q.symm)) wM_X4_75 mw_X1_copyFrom ⟨Nat.le_of_ble_eq_true rfl, Nat.le_of_ble_eq_true rfl⟩ rfl rfl hl.1 (Nat.le_of_ble_eq_true rfl) dX4_copyFrom_149 ⟨Nat.le_of_ble_eq_true rfl, Nat.le_of_ble_eq_true rfl⟩ (fun M1 H locs hp hw => ?_)
                    subst hp
                    have hI := hI.mF t i hlt
                    refine lv_iinc (v := (nI (i + 1))) (lv' := [(2, .int (nI (i + 1))), (1, .ref (Lb 0)), (0, .ref (L 0))]) hx hb dX4_copyFrom_152 hl (k := 0) rfl (nI_1 i) (by decide) rfl (fun ls hl => ?_)
                    refine lv_goto (tgt := 131) hx hb dX4_copyFrom_155 (by decide) ?_
                    exact ih (i + 1) (by omega) (by omega) (mxF t g i) _ _ _ _ hw hI (fun k hk hd => by unfold mxF; split <;> first | rfl | exact hA k hk (by omega)) (lv_sub hl [0, 1, 2] rfl)
              exact lp131 (16 + 1) 0 (by omega) (by omega) g _ _ _ _ hw hI (fun k hk hd => hA k hk (by omega)) (lv_sub hl [0, 1, 2] rfl)
            · have hlt : i < 8 := ix_lt (b := 8) (by omega) c105
              have hB : ∀ j, j < 32 → M1 (Lb j) = M (Lb j) := fun j hj => hI.2 _ (fun i hi q => hd i j hi hj q.symm)
              refine lv_aload_n hx hb dX4_copyFrom_108 rfl (lv_at hl 2 rfl) ?_
              refine r_get cX inX4 hw hI.1.1 rfl 10 (by decide) wF_X4_19 rfl dX4_copyFrom_109 ?_
              refine lv_iload_n hx hb dX4_copyFrom_112 rfl (lv_at hl 0 rfl) ?_
              obtain ⟨g_24, hg_24, hg_24_⟩ := hI.1.2.2.1
              refine r_aald cX hw 2 rfl hg_24 i rfl hlt (by decide) (hg_24_ i hlt) dX4_copyFrom_113 ?_
              refine lv_aload_n hx hb dX4_copyFrom_114 rfl (lv_at hl 1 rfl) ?_
              refine r_get cX inX4 hw ((hB 0 (by decide)).trans hJ.1) rfl 10 (by decide) wF_X4_19 rfl dX4_copyFrom_115 ?_
              refine lv_iload_n hx hb dX4_copyFrom_118 rfl (lv_at hl 0 rfl) ?_
              obtain ⟨g_25, hg_25, hg_25_⟩ := hJ.2.2.1
              refine r_aald cX hw 2 rfl ((hB 2 (by decide)).trans hg_25) i rfl hlt (by decide) (hg_25_ i hlt) dX4_copyFrom_119 ?_
              refine r_Vv cX hw (hI.1.2.2.2.2.2.1 i hlt) rfl [.ref (Lb (8 + i))] (c_X0_copyFrom l G (hI.1.2.2.2.2.2.1 i hlt) ((hB (8 + i) (by omega)).trans (hJ.2.2.2.2.2.1 i hlt)) (fun q => hd (8 + i) (8 + i) (by omega) (by omega) q.symm) (hJ.2.2.2.2.2.2.2.2 i hlt)) wM_X4_72 mw_X0_copyFrom ⟨Nat.le_of_ble_eq_true rfl, Nat.le_of_ble_eq_true rfl⟩ rfl rfl hl.1 (Nat.le_of_ble_eq_true rfl) dX4_copyFrom_120 ⟨Nat.le_of_ble_eq_true rfl, Nat.le_of_ble_eq_true rfl⟩ (fun M1 H locs hp hw => ?_)
              subst hp
              have hI := hI.mE t i hlt (hJ.2.2.2.2.2.2.2.2 i hlt)
              refine lv_iinc (v := (nI (i + 1))) (lv' := [(2, .int (nI (i + 1))), (1, .ref (Lb 0)), (0, .ref (L 0))]) hx hb dX4_copyFrom_123 hl (k := 0) rfl (nI_1 i) (by decide) rfl (fun ls hl => ?_)
              refine lv_goto (tgt := 102) hx hb dX4_copyFrom_126 (by decide) ?_
              exact ih (i + 1) (by omega) (by omega) (mxE t g i) _ _ _ _ hw hI (fun k hk hd => by unfold mxE; split <;> first | rfl | exact hA k hk (by omega)) (lv_sub hl [0, 1, 2] rfl)
        exact lp102 (8 + 1) 0 (by omega) (by omega) g _ _ _ _ hw hI (fun k hk hd => hA k hk (by omega)) (lv_sub hl [0, 1, 2] rfl)
      · have hlt : i < 4 := ix_lt (b := 4) (by omega) c76
        have hB : ∀ j, j < 32 → M1 (Lb j) = M (Lb j) := fun j hj => hI.2 _ (fun i hi q => hd i j hi hj q.symm)
        refine lv_aload_n hx hb dX4_copyFrom_79 rfl (lv_at hl 2 rfl) ?_
        refine r_get cX inX4 hw hI.1.1 rfl 9 (by decide) wF_X4_11 rfl dX4_copyFrom_80 ?_
        refine lv_iload_n hx hb dX4_copyFrom_83 rfl (lv_at hl 0 rfl) ?_
        obtain ⟨g_26, hg_26, hg_26_⟩ := hI.1.2.1
        refine r_aald cX hw 4 rfl hg_26 i rfl hlt (by decide) (hg_26_ i hlt) dX4_copyFrom_84 ?_
        refine lv_aload_n hx hb dX4_copyFrom_85 rfl (lv_at hl 1 rfl) ?_
        refine r_get cX inX4 hw ((hB 0 (by decide)).trans hJ.1) rfl 9 (by decide) wF_X4_11 rfl dX4_copyFrom_86 ?_
        refine lv_iload_n hx hb dX4_copyFrom_89 rfl (lv_at hl 0 rfl) ?_
        obtain ⟨g_27, hg_27, hg_27_⟩ := hJ.2.1
        refine r_aald cX hw 4 rfl ((hB 1 (by decide)).trans hg_27) i rfl hlt (by decide) (hg_27_ i hlt) dX4_copyFrom_90 ?_
        refine r_Vv cX hw (hI.1.2.2.2.2.1 i hlt) rfl [.ref (Lb (4 + i))] (c_X2_copyFrom l G (hI.1.2.2.2.2.1 i hlt) ((hB (4 + i) (by omega)).trans (hJ.2.2.2.2.1 i hlt)) (fun q => hd (4 + i) (4 + i) (by omega) (by omega) q.symm)) wM_X4_68 mw_X2_copyFrom ⟨Nat.le_of_ble_eq_true rfl, Nat.le_of_ble_eq_true rfl⟩ rfl rfl hl.1 (Nat.le_of_ble_eq_true rfl) dX4_copyFrom_91 ⟨Nat.le_of_ble_eq_true rfl, Nat.le_of_ble_eq_true rfl⟩ (fun M1 H locs hp hw => ?_)
        subst hp
        have hI := hI.mP t i hlt
        refine lv_iinc (v := (nI (i + 1))) (lv' := [(2, .int (nI (i + 1))), (1, .ref (Lb 0)), (0, .ref (L 0))]) hx hb dX4_copyFrom_94 hl (k := 0) rfl (nI_1 i) (by decide) rfl (fun ls hl => ?_)
        refine lv_goto (tgt := 74) hx hb dX4_copyFrom_97 (by decide) ?_
        exact ih (i + 1) (by omega) (by omega) (mxP t g i) _ _ _ _ hw hI (fun k hk hd => by unfold mxP; split <;> first | rfl | exact hA k hk (by omega)) (lv_sub hl [0, 1, 2] rfl)
  exact lp74 (4 + 1) 0 (by omega) (by omega) (mxS t f) _ _ _ _ hw hI (fun k hk hd => by unfold mxS; rw [if_pos (by omega)]) (lv_sub hl [0, 2, 1] rfl)
