theorem ka_i {s : State} (h : (Cond.arrayClass .int).before #[] s = true) : ∃ cA : ClassId, ArrOfT s cA .int ∧ va_RA s cA .int := by
  obtain ⟨cA, kA, comp, h1, h2, h3⟩ := Cond.arrayClass_spec h
  exact ⟨cA, fun n z => ⟨fun k h => (by cases h), kA, h2, comp, h3⟩, h1⟩
theorem ka_z {s : State} (h : (Cond.arrayClass .boolean).before #[] s = true) : ∃ cA : ClassId, ArrOfT s cA .boolean ∧ va_RA s cA .boolean := by
  obtain ⟨cA, kA, comp, h1, h2, h3⟩ := Cond.arrayClass_spec h
  exact ⟨cA, fun n z => ⟨fun k h => (by cases h), kA, h2, comp, h3⟩, h1⟩
theorem ka_q {s : State} {C : String} (h : va_AO C s) : ∃ cA : ClassId, ArrOfT s cA (.object C) ∧ va_RA s cA (.object C) := by
  obtain ⟨comp, cA, kA, h1, h2, h3, h4, h5⟩ := Cond.arrayOver_spec h
  exact ⟨cA, fun n z => ⟨fun k h => (by cases h), kA, h3, comp, h4⟩, kA, comp, h3, h4, h1, h5⟩
/-- the tables of the start give the classes and array classes -/
theorem kx_start {s : State} {sb : Nat} (hts : ∀ w ∈ lw_tbl, w.before #[Value.ref sb] s = true) : ∃ G : gG, Kx G s := by
  have ht : ∀ w ∈ tbk, w.before #[Value.ref sb] s = true := fun w hw => hts w (tb_in hw).1
  obtain ⟨c0, i0, k0⟩ := u_known (C := RX0) (T := TX0) (N := 4) (n := 4) ht inX0 (ht _ wB_X0)
  obtain ⟨c1, i1, k1⟩ := u_known (C := RX1) (T := TX1) (N := 5) (n := 5) ht inX1 (ht _ wB_X1)
  obtain ⟨c2, i2, k2⟩ := u_known (C := RX2) (T := TX2) (N := 8) (n := 8) ht inX2 (ht _ wB_X2)
  obtain ⟨c3, i3, k3⟩ := u_known (C := RX3) (T := TX3) (N := 3) (n := 3) ht inX3 (ht _ wB_X3)
  obtain ⟨c4, i4, k4⟩ := u_known (C := RX4) (T := TX4) (N := 12) (n := 12) ht inX4 (ht _ wB_X4)
  obtain ⟨c5, i5, k5⟩ := u_known (C := RX5) (T := TX5) (N := 6) (n := 6) ht inX5 (ht _ wB_X5)
  obtain ⟨c6, i6, k6⟩ := u_known (C := RX6) (T := TX6) (N := 5) (n := 5) ht inX6 (ht _ wB_X6)
  obtain ⟨c7, i7, k7⟩ := u_known (C := RX7) (T := TX7) (N := 11) (n := 11) ht inX7 (ht _ wB_X7)
  have o0 : va_AO RX0 s := va_AO.of (hts _ wA_X0)
  have o1 : va_AO RX1 s := va_AO.of (hts _ wA_X1)
  have o2 : va_AO RX2 s := va_AO.of (hts _ wA_X2)
  have o4 : va_AO RX4 s := va_AO.of (hts _ wA_X4)
  have oi : (Cond.arrayClass .int).before #[] s = true := hts _ wA_int
  have oz : (Cond.arrayClass .boolean).before #[] s = true := hts _ wA_boolean
  obtain ⟨ai, bi⟩ := ka_i oi
  obtain ⟨az, bz⟩ := ka_z oz
  obtain ⟨a0, b0⟩ := ka_q o0
  obtain ⟨a1, b1⟩ := ka_q o1
  obtain ⟨a2, b2⟩ := ka_q o2
  obtain ⟨a4, b4⟩ := ka_q o4
  refine ⟨((fun k => match k with | 0 => c0 | 1 => c1 | 2 => c2 | 3 => c3 | 4 => c4 | 5 => c5 | 6 => c6 | _ => c7, fun k => match k with | 0 => i0 | 1 => i1 | 2 => i2 | 3 => i3 | 4 => i4 | 5 => i5 | 6 => i6 | _ => i7), fun k => match k with | 0 => ai | 1 => az | 2 => a0 | 3 => a1 | 4 => a2 | _ => a4), ⟨?_, ?_⟩, fun w hw => va_tabs (tb_in hw).2.1 rfl (ht w hw), ⟨o0, o1, o2, o4⟩, oi, oz⟩
  · intro k q hq
    match k, hq with
    | 0, hq => cases hq; exact k0
    | 1, hq => cases hq; exact k1
    | 2, hq => cases hq; exact k2
    | 3, hq => cases hq; exact k3
    | 4, hq => cases hq; exact k4
    | 5, hq => cases hq; exact k5
    | 6, hq => cases hq; exact k6
    | 7, hq => cases hq; exact k7
    | k + 8, hq => simp [vwCl] at hq
  · intro k q hq
    match k, hq with
    | 0, hq => cases hq; exact bi
    | 1, hq => cases hq; exact bz
    | 2, hq => cases hq; exact b0
    | 3, hq => cases hq; exact b1
    | 4, hq => cases hq; exact b2
    | 5, hq => cases hq; exact b4
    | k + 6, hq => simp [tyL] at hq
theorem wd_start {G : gG} {s : State} : Wd G (LA s) s.heap (fun _ => none) s.heap [] := by
  refine ⟨⟨[], fun k q h => by simp at h, ⟨fun i j p q h => by simp at h, fun k q h => by simp at h⟩, fun a e => ⟨fun h => (by cases h), fun h => ?_⟩⟩, va_S.rf, fun q h => h⟩
  obtain ⟨k, hk⟩ := h
  simp at hk
set_option maxHeartbeats 4000000 in
set_option maxRecDepth 100000 in
theorem whole_start {p : Program} {e : Env} {s : State} {m : MethodId} {below : List Frame} {meth : Method} {c : Code} (l : Launch) (hflags : l.flags = flags0) {b L : Nat} {xs : Nat → Int32} (hL : L ≤ 1536) (C0 : lw_At p s m meth c b L xs) : W p l e room_1 s m #[Value.ref b] below meth c s.heap [] 0 0 (lw_Z below #[Value.ref b] s) (entryFrame m ([Value.ref b] : List Value).toArray 4) := by
  obtain ⟨hx, hb, hr, hml, hown, hts, hX, hbl, hlocks, hgv⟩ := id C0
  obtain ⟨G, hK⟩ := kx_start hts
  have cX : cx p s m c code 4 RL G := ⟨hx, hb, hml, hown, hK⟩
  have hw : Wd G (LA s) s.heap (fun _ => none) s.heap [] := wd_start
  have hl := lv_entry ([.ref b]) (n := 4) (Nat.le_of_ble_eq_true rfl)
  rw [lg_entry_eq]
  generalize (lg_sl ([.ref b]) ++ List.replicate (4 - (lg_sl ([.ref b])).length) Slot.unset).toArray = ls at hl ⊢
  have hl : lv_has ls 4 [(0, .ref b)] := hl
  refine r_new (ci := 6) (fs := [.null, .null, .null, .null, .null]) cX inX6 tyX6 tyX6_ok wL_L_7 wB_X6 wN_X6 hw rfl dfX6 (Nat.le_of_ble_eq_true rfl) (Nat.le_of_ble_eq_true rfl) dL_law_0 (fun q H hq hw => ?_)
  refine lv_dup hx hb dL_law_3 rfl ?_
  refine r_Iv cX hw [] (c_X6_init l G (mu_at _ _ _)) wM_L_9 mw_X6_init ⟨Nat.le_of_ble_eq_true rfl, Nat.le_of_ble_eq_true rfl⟩ rfl rfl hl.1 (Nat.le_of_ble_eq_true rfl) dL_law_4 ⟨Nat.le_of_ble_eq_true rfl, Nat.le_of_ble_eq_true rfl⟩ (fun M1 H locs hp hw => ?_)
  obtain ⟨ad, tr, had, hCl, -⟩ := hp
  refine lv_astore_n (lv' := [(1, .ref q), (0, .ref b)]) hx hb dL_law_7 rfl hl (by decide) rfl (fun ls hl => ?_)
  refine r_new (ci := 7) (fs := [.null, .null, .int 0, .null, .null, .null, .int 0, .int 0, .int 0, .null, .null]) cX inX7 tyX7 tyX7_ok wL_L_10 wB_X7 wN_X7 hw rfl dfX7 (Nat.le_of_ble_eq_true rfl) (Nat.le_of_ble_eq_true rfl) dL_law_8 (fun q2 H hq2 hw => ?_)
  obtain ⟨M2, eM2⟩ : ∃ X : HM, X = mu M1 q2 (.inr (7, [.null, .null, .int 0, .null, .null, .null, .int 0, .int 0, .int 0, .null, .null])) := ⟨_, rfl⟩
  have hw := hw.to eM2.symm
  refine lv_dup hx hb dL_law_11 rfl ?_
  refine r_Iv cX hw [] (c_X7_init l G (at_new eM2)) wM_L_12 mw_X7_init ⟨Nat.le_of_ble_eq_true rfl, Nat.le_of_ble_eq_true rfl⟩ rfl rfl hl.1 (Nat.le_of_ble_eq_true rfl) dL_law_12 ⟨Nat.le_of_ble_eq_true rfl, Nat.le_of_ble_eq_true rfl⟩ (fun M3 H locs hp hw => ?_)
  obtain ⟨bb, hbb, hRf, hfr, hkp⟩ := hp
  refine lv_astore_n (lv' := [(2, .ref q2), (1, .ref q), (0, .ref b)]) hx hb dL_law_15 rfl hl (by decide) rfl (fun ls hl => ?_)
  refine lv_iconst (v := 0) hx hb dL_law_16 (by decide) ?_
  refine lv_istore_n (lv' := [(3, .int 0), (2, .ref q2), (1, .ref q), (0, .ref b)]) hx hb dL_law_17 rfl hl (by decide) rfl (fun ls hl => ?_)
  have hCl3 : IsCl G M3 ad (fun _ => iniF 4 8) 0 0 (fun _ => 0) (fun _ => 0) 0 tr := hCl.kept (fun i hi => by
    obtain ⟨x, hx'⟩ := hCl.all i hi
    rw [hx']
    exact hkp _ _ (ne_some hq2 hx') (at_old eM2 (ne_some hq2 hx') hx'))
  have hap : Apt ad bb := fun i j hi hj => by
    obtain ⟨x, hx'⟩ := hCl.all i hi
    by_cases c0 : j = 0
    · rw [c0, hbb]
      exact ne_some hq2 hx'
    · exact ne_some (at_none eM2 (hfr j (by omega) hj)).1 hx'
  have hRf3 : IsRf G M3 bb (iniF 4 8) (fun _ => 0) (fun _ => 0) (fun _ => 0) (fun _ => 0) (fun _ => 0) (fun _ => 0) (nI 0) (nI 0) 0 0 := by
    rw [nI_0]
    exact hRf
  have hI : LI G M3 ad bb (fun _ => iniF 4 8, 0, 0, fun _ => 0, fun _ => 0, 0) := ⟨⟨tr, hCl3, OffC.rf _ _ _⟩, ⟨_, _, _, _, _, _, hRf3.rf, fun k hk => absurd hk (Nat.not_lt_zero k), fun _ _ h => absurd rfl h, by decide, by decide, by decide⟩⟩
  rw [← had, ← hbb] at hl
  refine W.widen (k := 367) (n := 4106) (Nat.le_of_ble_eq_true rfl) (Nat.le_of_ble_eq_true rfl) ?_
  exact law_loop ⟨cX, hX, hbl⟩ hr hlocks hL hap (512 + 1) 0 (by omega) (by omega) _ _ _ _ _ hw hI ZI.ini (lv_sub hl [0, 1, 2, 3] rfl)
