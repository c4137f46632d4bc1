def itm (o : Option (Option Int32 × Int32)) (x y : Int32) : Prop := match o with
  | none => False
  | some (none, s) => x = -9 ∧ y = s
  | some (some v, s) => x = v ∧ y = s
def IT (T : Nat → Int32) (n : Nat) (g1 g2 : Nat → Int32) (k : Nat) : Prop := ∀ j, j < k → itm (rI T n (ps T n j)).1 (g1 j) (g2 j)
theorem itm_p {o : Option (Option Int32 × Int32)} {x y : Int32} (h : itm o x y) (hx : ¬ x = -9) : o = some (some x, y) := by
  rcases o with _ | ⟨_ | v, s⟩
  · exact h.elim
  · exact absurd h.1 hx
  · rw [h.1, h.2]
theorem itm_t {o : Option (Option Int32 × Int32)} {x y : Int32} (h : itm o x y) (hf : ∀ v s, o = some (some v, s) → ¬ v = -9) (hx : x = -9) : o = some (none, y) := by
  rcases o with _ | ⟨_ | v, s⟩
  · exact h.elim
  · rw [h.2]
  · exact absurd (h.1.symm.trans hx) (hf v s rfl)
theorem itm_n {o : Option (Option Int32 × Int32)} {x y : Int32} (h : itm o x y) : o ≠ none := by
  rcases o with _ | z
  · exact h.elim
  · exact fun q => (by cases q)
theorem IT_40 {T g1 g2 : Nat → Int32} {n k : Nat} (hn : n ≤ 120) (h : IT T n g1 g2 k) : k ≤ 40 := by
  obtain ⟨a, b, -⟩ := ps_sk k (fun j hj => itm_n (h j hj))
  omega
/-- the reading loop of readText after i items -/
def RTp (T : Nat → Int32) (n i : Nat) (x : Int32) (q k : Nat) (g1 g2 : Nat → Int32) : Prop := (x = 1 ∧ i = k ∧ IT T n g1 g2 i ∧ sk T n q = ps T n i ∧ fnd T n 120 0 = (if n ≤ ps T n i then (i, true) else fnd T n (120 - i) i)) ∨ (x = 0 ∧ (fnd T n 120 0).2 = false ∧ q = (rI T n (ps T n (fnd T n 120 0).1)).2)
theorem RTp.step {T g1 g2 : Nat → Int32} {n i q : Nat} {r : Int32} (hf : fnd T n 120 0 = fnd T n (120 - i) i) (hi : i < 120) (hs : sk T n q = ps T n i) (hI : IT T n g1 g2 i) (hr : r = (if (rJ T n q).1 = none then 0 else 1)) : RTp T n (i + 1) r (rJ T n q).2 (iKo i (rJ T n q).1) (iFo g1 i (rJ T n q).1) (iNo g2 i (rJ T n q).1) := by
  obtain ⟨a, b, d⟩ := rJ_rI (T := T) (n := n) q
  rw [hs] at a b d
  have hs2 : fnd T n 120 0 = if (rI T n (ps T n i)).1 = none then (i, false) else if n ≤ ps T n (i + 1) then (i + 1, true) else fnd T n (120 - (i + 1)) (i + 1) := by
    rw [hf, show 120 - i = (120 - (i + 1)) + 1 by omega]
    rfl
  cases hj : (rJ T n q).1 with
  | none =>
    rw [if_pos hj] at hr
    rw [hj] at a
    rw [if_pos a.symm] at hs2
    refine Or.inr ⟨hr, by rw [hs2], ?_⟩
    rw [hs2]
    exact b hj
  | some x =>
    rw [if_neg (by rw [hj]; exact fun z => (by cases z))] at hr
    rw [hj] at a
    rw [if_neg (by rw [← a]; exact fun z => (by cases z))] at hs2
    have e : sk T n (rJ T n q).2 = ps T n (i + 1) := by
      rw [d]
      exact (rI_ok a.symm).2.2.2
    refine Or.inl ⟨hr, rfl, fun j hjj => ?_, e, hs2⟩
    rcases x with ⟨_ | v, s⟩
    · by_cases q2 : j = i
      · subst q2
        rw [← a]
        exact ⟨pk_us, pk_us⟩
      · show itm _ (upd g1 i _ j) (upd g2 i _ j)
        rw [pk_un q2, pk_un q2]
        exact hI j (by omega)
    · by_cases q2 : j = i
      · subst q2
        rw [← a]
        exact ⟨pk_us, pk_us⟩
      · show itm _ (upd g1 i _ j) (upd g2 i _ j)
        rw [pk_un q2, pk_un q2]
        exact hI j (by omega)
theorem RTp.go {T g1 g2 : Nat → Int32} {n i q k : Nat} {x : Int32} (h : RTp T n i x q k g1 g2) (hn : n ≤ 120) (hx : ¬ x = 0) : i = k ∧ IT T n g1 g2 i ∧ sk T n q = ps T n i ∧ i ≤ 40 ∧ fnd T n 120 0 = (if n ≤ ps T n i then (i, true) else fnd T n (120 - i) i) := by
  rcases h with ⟨-, a, b, c, d⟩ | ⟨a, -⟩
  · exact ⟨a, b, c, IT_40 hn b, d⟩
  · exact absurd a hx
theorem RTp.z01 {T g1 g2 : Nat → Int32} {n i q k : Nat} {x : Int32} (h : RTp T n i x q k g1 g2) : x = 0 ∨ x = 1 := h.elim (fun h => Or.inr h.1) (fun h => Or.inl h.1)
theorem RTp.x1 {T g1 g2 : Nat → Int32} {n i q k : Nat} {x : Int32} (h : RTp T n i x q k g1 g2) (hx : ¬ x = 0) : x = 1 := h.z01.resolve_left hx
theorem RTp.out0 {T g1 g2 : Nat → Int32} {n i q k : Nat} {x : Int32} (h : RTp T n i x q k g1 g2) (hx : x = 0) {P : (Nat → Int32) → (Nat → Int32) → Nat → Nat → Prop} (hP : P g1 g2 q k) : ∃ (g1 g2 : Nat → Int32) (q k : Nat), x = (if (fnd T n 120 0).2 = true then 1 else 0) ∧ P g1 g2 q k ∧ ((fnd T n 120 0).2 = true → k = (fnd T n 120 0).1 ∧ IT T n g1 g2 k) ∧ (¬ (fnd T n 120 0).2 = true → q = (rI T n (ps T n (fnd T n 120 0).1)).2) := by
  rcases h with ⟨a, -⟩ | ⟨-, b, c⟩
  · rw [a] at hx
    exact absurd hx (by decide)
  · refine ⟨g1, g2, q, k, ?_, hP, fun z => ?_, fun _ => c⟩
    · rw [b, hx]
      rfl
    · rw [b] at z
      cases z
theorem cs_end {T : Nat → Int32} {n p : Nat} (hT : ∀ i, i < n → ∃ u, u < 256 ∧ T i = nI u) (h : cs T n p = -9) : n ≤ p := by
  rcases Nat.lt_or_ge p n with q | q
  · unfold cs at h
    rw [if_pos q] at h
    obtain ⟨u, u1, u2⟩ := hT p q
    rw [u2] at h
    exact absurd h (nI_nem9 (by omega))
  · exact q
theorem wn1 {x t r : Int32} (h : r = (if 1 ≤ x ∧ x ≤ 1000 then (if x ≤ tmx - t then 0 else -2) else -1)) (h0 : ¬ r = 0) : ¬ ((1 ≤ x ∧ x ≤ 1000) ∧ x ≤ tmx - t) := by
  intro q
  rw [if_pos q.1, if_pos q.2] at h
  exact h0 h
theorem sd_nn {B k : Nat} {f : Nat → Int32} (h : Inv B f) (hB : B < 2 ^ 30) (hk : k < 16) (s : Int32) : ¬ (sdF f k s).1 < 0 := by
  obtain ⟨j, hj, hc⟩ := chF_N h hB k hk
  have := h.P
  unfold sdF trF
  rw [hc]
  split
  · show ¬ (10 + nI j : Int32) < 0
    rw [show (10 : Int32) + nI j = nI (10 + j) from nI_add 10 j]
    exact nI_nlt (b := 0) (Nat.zero_le _) (by omega)
  · exact nI_nlt (b := 0) (Nat.zero_le _) (by omega)
theorem rz_t {r : Int32} {b : Bool} (h : r = (if b = true then 1 else 0)) (h0 : ¬ r = 0) : b = true := by
  cases b
  · exact absurd h h0
  · rfl
theorem rz_f {r : Int32} {b : Bool} (h : r = (if b = true then 1 else 0)) (h0 : r = 0) : ¬ b = true := by
  cases b
  · exact fun q => (by cases q)
  · rw [h] at h0
    exact absurd h0 (by decide)
theorem rt_x2 {T f : Nat → Int32} {n i : Nat} {r : Int32} (h : r = (exI (exS T n f i).2 (rI T n (ps T n i)).1).1) (h0 : r = 0) : (exS T n f i).1 + 0 = (exS T n f (i + 1)).1 := by
  show _ = _ + _
  rw [← h, h0]
set_option maxHeartbeats 4000000 in
set_option maxRecDepth 100000 in
theorem c_X7_readText (l : Launch) (G : gG) {M : HM} {b : Nat → Nat} {f sv sl fl T iF iN : Nat → Int32} {ct : Int32} {ln : Nat} {at_ it : Int32} (hR0 : IsRf G M b f sv sl fl T iF iN ct (nI ln) at_ it) (hln : ln ≤ 120) (hT : ∀ i, i < ln → ∃ u, u < 256 ∧ T i = nI u) : Ci l yX7_readText cX7_readText 2 .boolean (rd 4 0 0) G [.ref (b 0)] M (fun r M' => ∃ (g1 g2 : Nat → Int32) (q k : Nat), r = (if (fnd T ln 120 0).2 = true then 1 else 0) ∧ Rf G M M' b f sv sl fl T g1 g2 ct (nI ln) (nI q) (nI k) ∧ ((fnd T ln 120 0).2 = true → k = (fnd T ln 120 0).1 ∧ IT T ln g1 g2 k) ∧ (¬ (fnd T ln 120 0).2 = true → q = (rI T ln (ps T ln (fnd T ln 120 0).1)).2)) := by
  refine Ci.of (by decide) (Nat.le_of_ble_eq_true rfl) ?_
  intro p e s m args below meth c ls cX hw hlocks hr hl
  have hx := cX.1
  have hb := cX.2.1
  have hl : lv_has ls 2 [(0, .ref (b 0))] := hl
  have hR := hR0.rf
  refine lv_aload_n hx hb dX7_readText_0 rfl (lv_at hl 0 rfl) ?_
  refine lv_iconst (v := 0) hx hb dX7_readText_1 (by decide) ?_
  refine r_put (fs' := rfO b ct (nI ln) 0 it) cX inX7 tyX7 tyX7_ok nmX7 hw hR.1.1 rfl 7 (by decide) wF_X7_132 rfl rfl rfl rfl (Nat.le_of_ble_eq_true rfl) dX7_readText_2 (fun H locs hw => ?_)
  have hR := hR.ob (ct' := ct) (len' := nI ln) (at_' := 0) (it' := it)
  rw [show (0 : Int32) = nI 0 from rfl] at hw hR
  refine lv_aload_n hx hb dX7_readText_5 rfl (lv_at hl 0 rfl) ?_
  refine lv_iconst (v := 0) hx hb dX7_readText_6 (by decide) ?_
  refine r_put (fs' := rfO b ct (nI ln) (nI 0) 0) cX inX7 tyX7 tyX7_ok nmX7 hw hR.1.1 rfl 8 (by decide) wF_X7_144 rfl rfl rfl rfl (Nat.le_of_ble_eq_true rfl) dX7_readText_7 (fun H locs hw => ?_)
  have hR := hR.ob (ct' := ct) (len' := nI ln) (at_' := nI 0) (it' := 0)
  rw [show (0 : Int32) = nI 0 from rfl] at hw hR
  refine lv_aload_n hx hb dX7_readText_10 rfl (lv_at hl 0 rfl) ?_
  refine r_Vi cX hw hR.1.1 rfl [] (c_X7_readItem l G hR.1 hln (Nat.zero_le _) (by omega)) wM_X7_147 mw_X7_readItem ⟨Nat.le_of_ble_eq_true rfl, Nat.le_of_ble_eq_true rfl⟩ rfl rfl hl.1 (Nat.le_of_ble_eq_true rfl) dX7_readText_11 ⟨Nat.le_of_ble_eq_true rfl, Nat.le_of_ble_eq_true rfl⟩ (fun r M1 H locs hp hw => ?_)
  obtain ⟨hr1, hp⟩ := hp
  have hR := hR.trans hp
  refine lv_istore_n (lv' := [(1, .int r), (0, .ref (b 0))]) hx hb dX7_readText_14 rfl hl (by decide) rfl (fun ls hl => ?_)
  have hk1 := RTp.step (T := T) (n := ln) (i := 0) (q := 0) (g1 := iF) (g2 := iN) rfl (by omega) rfl (fun j hj => absurd hj (by omega)) hr1
  have lp15 : ∀ (nn i : Nat), i ≤ 120 → 120 < i + nn → ∀ (x1 : Int32) (q : Nat) (k : Nat) (g1 : Nat → Int32) (g2 : Nat → Int32) (M1 : HM) (H : Heap) (locs : List Loc) (ls : Array Slot), Wd G (dm M s.heap.size) s.heap M1 H locs → Rf G M M1 b f sv sl fl T g1 g2 ct (nI ln) (nI q) (nI k) → RTp T ln i x1 q k g1 g2 → q ≤ ln → lv_has ls 2 [(1, .int x1), (0, .ref (b 0))] → W p l e (rd 4 0 0) s m args below meth c H locs 0 0 (MQ below (QI G M s.heap.size (fun r M' => ∃ (g1 g2 : Nat → Int32) (q k : Nat), r = (if (fnd T ln 120 0).2 = true then 1 else 0) ∧ Rf G M M' b f sv sl fl T g1 g2 ct (nI ln) (nI q) (nI k) ∧ ((fnd T ln 120 0).2 = true → k = (fnd T ln 120 0).1 ∧ IT T ln g1 g2 k) ∧ (¬ (fnd T ln 120 0).2 = true → q = (rI T ln (ps T ln (fnd T ln 120 0).1)).2))) args s 0 0 (dm M s.heap.size)) (F0 m 15 ls []) := by
    intro nn
    induction nn with
    | zero =>
      intro i h1 h2
      exact absurd h2 (by omega)
    | succ nn ih =>
      intro i hi hin x1 q k g1 g2 M1 H locs ls hw hR hk hqn hl
      refine lv_iload_n hx hb dX7_readText_15 rfl (lv_at hl 0 rfl) ?_
      refine lv_if_eq (tgt := 36) hx hb dX7_readText_16 (by decide) (fun c16 => ?_) (fun c16 => ?_)
      · refine lv_iload_n hx hb dX7_readText_36 rfl (lv_at hl 0 rfl) ?_
        exact r_zret cX hr hlocks (z01n hk.z01) hw (hk.out0 c16 hR) dX7_readText_37
      · obtain ⟨hki, hIT, hsq, hi40, hfd⟩ := hk.go hln c16
        subst hki
        refine lv_aload_n hx hb dX7_readText_19 rfl (lv_at hl 1 rfl) ?_
        refine r_Vi cX hw hR.1.1 rfl [] (c_X7_sign l G hR.1 hln hqn) wM_X7_135 mw_X7_sign ⟨Nat.le_of_ble_eq_true rfl, Nat.le_of_ble_eq_true rfl⟩ rfl rfl hl.1 (Nat.le_of_ble_eq_true rfl) dX7_readText_20 ⟨Nat.le_of_ble_eq_true rfl, Nat.le_of_ble_eq_true rfl⟩ (fun r M1 H locs hp hw => ?_)
        obtain ⟨hr1, hp⟩ := hp
        subst hr1
        have hR := hR.trans hp
        refine lv_bipush (v := (-9)) hx hb dX7_readText_23 (by decide) ?_
        refine lv_icmp_eq (tgt := 36) hx hb dX7_readText_25 (by decide) (fun c25 => ?_) (fun c25 => ?_)
        · have hnd : ln ≤ ps T ln i := by rw [← hsq]; exact cs_end hT c25
          refine lv_iload_n hx hb dX7_readText_36 rfl (lv_at hl 0 rfl) ?_
          exact r_zret cX hr hlocks (z01n hk.z01) hw (by refine ⟨g1, g2, _, i, ?_, hR, ?_, ?_⟩; (rw [hfd, if_pos hnd, if_pos rfl]; exact hk.x1 c16); (rw [hfd, if_pos hnd]; exact fun _ => ⟨rfl, hIT⟩); (rw [hfd, if_pos hnd]; exact fun h => absurd rfl h)) dX7_readText_37
        · have hnd : ¬ ln ≤ ps T ln i := by rw [← hsq]; exact fun h => c25 (if_neg (Nat.not_lt.mpr h))
          refine lv_aload_n hx hb dX7_readText_28 rfl (lv_at hl 1 rfl) ?_
          refine r_Vi cX hw hR.1.1 rfl [] (c_X7_readItem l G hR.1 hln (sk_n hqn) (by omega)) wM_X7_147 mw_X7_readItem ⟨Nat.le_of_ble_eq_true rfl, Nat.le_of_ble_eq_true rfl⟩ rfl rfl hl.1 (Nat.le_of_ble_eq_true rfl) dX7_readText_29 ⟨Nat.le_of_ble_eq_true rfl, Nat.le_of_ble_eq_true rfl⟩ (fun r M1 H locs hp hw => ?_)
          obtain ⟨hr1, hp⟩ := hp
          have hR := hR.trans hp
          refine lv_istore_n (lv' := [(1, .int r), (0, .ref (b 0))]) hx hb dX7_readText_32 rfl hl (by decide) rfl (fun ls hl => ?_)
          refine lv_goto (tgt := 15) hx hb dX7_readText_33 (by decide) ?_
          exact ih (i + 1) (by omega) (by omega) r ((rJ T ln (sk T ln q)).2) (iKo i (rJ T ln (sk T ln q)).1) (iFo g1 i (rJ T ln (sk T ln q)).1) (iNo g2 i (rJ T ln (sk T ln q)).1) _ _ _ _ hw hR (RTp.step (by rw [hfd, if_neg hnd]) (by omega) (by rw [sk_sk]; exact hsq) hIT hr1) (rJ_n (sk_n hqn)) (lv_sub hl [0, 1] rfl)
  exact lp15 (120 + 1) 1 (by omega) (by omega) r ((rJ T ln 0).2) (iKo 0 (rJ T ln 0).1) (iFo iF 0 (rJ T ln 0).1) (iNo iN 0 (rJ T ln 0).1) _ _ _ _ hw hR hk1 (rJ_n (Nat.zero_le _)) (lv_sub hl [0, 1] rfl)

set_option maxHeartbeats 4000000 in
set_option maxRecDepth 100000 in
theorem c_X7_execute (l : Launch) (G : gG) {M : HM} {b : Nat → Nat} {f sv sl fl T iF iN : Nat → Int32} {ct len at_ it : Int32} (hR0 : IsRf G M b f sv sl fl T iF iN ct len at_ it) {B : Nat} (hv : Inv B f) (hB : B < 2 ^ 30) {o : Option (Option Int32 × Int32)} (j : Nat) (hj : j < 60) (hit : itm o (iF j) (iN j)) (hfl : ∀ v s, o = some (some v, s) → ¬ v = -9) : Ci l yX7_execute cX7_execute 5 .boolean (rd 4 0 0) G [.ref (b 0), .int (nI j)] M (fun r M' => r = (exI f o).1 ∧ Rf G M M' b (exI f o).2 sv sl fl T iF iN ct len at_ it) := by
  refine Ci.of (by decide) (Nat.le_of_ble_eq_true rfl) ?_
  intro p e s m args below meth c ls cX hw hlocks hr hl
  have hx := cX.1
  have hb := cX.2.1
  have hl : lv_has ls 5 [(0, .ref (b 0)), (1, .int (nI j))] := hl
  have hR := hR0.rf
  refine lv_aload_n hx hb dX7_execute_0 rfl (lv_at hl 0 rfl) ?_
  refine r_get cX inX7 hw hR.1.1 rfl 9 (by decide) wF_X7_26 rfl dX7_execute_1 ?_
  refine lv_iload_n hx hb dX7_execute_4 rfl (lv_at hl 1 rfl) ?_
  refine r_iald (v := iF j) cX hw hR.1.2.2.2.2.2.2.1 j rfl hj (by decide) rfl dX7_execute_5 ?_
  refine lv_istore_n (lv' := [(2, .int (iF j)), (0, .ref (b 0)), (1, .int (nI j))]) hx hb dX7_execute_6 rfl hl (by decide) rfl (fun ls hl => ?_)
  refine lv_aload_n hx hb dX7_execute_7 rfl (lv_at hl 1 rfl) ?_
  refine r_get cX inX7 hw hR.1.1 rfl 10 (by decide) wF_X7_29 rfl dX7_execute_8 ?_
  refine lv_iload_n hx hb dX7_execute_11 rfl (lv_at hl 2 rfl) ?_
  refine r_iald (v := iN j) cX hw hR.1.2.2.2.2.2.2.2.1 j rfl hj (by decide) rfl dX7_execute_12 ?_
  refine lv_istore_n (lv' := [(3, .int (iN j)), (2, .int (iF j)), (0, .ref (b 0)), (1, .int (nI j))]) hx hb dX7_execute_13 rfl hl (by decide) rfl (fun ls hl => ?_)
  refine lv_iload_n hx hb dX7_execute_14 rfl (lv_at hl 1 rfl) ?_
  refine lv_bipush (v := (-9)) hx hb dX7_execute_15 (by decide) ?_
  refine lv_icmp_ne (tgt := 54) hx hb dX7_execute_17 (by decide) (fun c17 => ?_) (fun c17 => ?_)
  · obtain rfl : o = some (some (iF j), iN j) := itm_p hit c17
    refine lv_iload_n hx hb dX7_execute_54 rfl (lv_at hl 1 rfl) ?_
    refine r_Si cX hw [.int (iF j)] (c_X7_isFlow l G (iF j)) wM_X7_108 mw_X7_isFlow ⟨Nat.le_of_ble_eq_true rfl, Nat.le_of_ble_eq_true rfl⟩ rfl rfl hl.1 (Nat.le_of_ble_eq_true rfl) dX7_execute_55 ⟨Nat.le_of_ble_eq_true rfl, Nat.le_of_ble_eq_true rfl⟩ (fun r M1 H locs hp hw => ?_)
    obtain ⟨hr1, hq⟩ := hp
    subst hr1
    rw [hq] at hw
    refine lv_if_eq (tgt := 72) hx hb dX7_execute_58 (by decide) (fun c58 => ?_) (fun c58 => ?_)
    · refine lv_iconst (v := 0) hx hb dX7_execute_72 (by decide) ?_
      refine lv_istore (lv' := [(4, .int 0), (3, .int (iN j)), (2, .int (iF j)), (0, .ref (b 0)), (1, .int (nI j))]) hx hb dX7_execute_73 hl (by decide) rfl (fun ls hl => ?_)
      refine lv_iload hx hb dX7_execute_75 (lv_at hl 0 rfl) ?_
      refine lv_if_eq (tgt := 93) hx hb dX7_execute_77 (by decide) (fun _ => ?_) (fun h => absurd h (by decide))
      refine lv_iconst (v := 0) hx hb dX7_execute_93 (by decide) ?_
      exact r_zret cX hr hlocks rfl hw (by unfold exI; (try dsimp only); rw [if_neg (fun h => if01e c58 h.1)]; exact ⟨rfl, hR⟩) dX7_execute_94
    · refine lv_iload_n hx hb dX7_execute_61 rfl (lv_at hl 0 rfl) ?_
      refine r_Si cX hw [.int (iN j)] (c_X7_isSize l G (iN j)) wM_X7_111 mw_X7_isSize ⟨Nat.le_of_ble_eq_true rfl, Nat.le_of_ble_eq_true rfl⟩ rfl rfl hl.1 (Nat.le_of_ble_eq_true rfl) dX7_execute_62 ⟨Nat.le_of_ble_eq_true rfl, Nat.le_of_ble_eq_true rfl⟩ (fun r M1 H locs hp hw => ?_)
      obtain ⟨hr1, hq⟩ := hp
      subst hr1
      rw [hq] at hw
      refine lv_if_eq (tgt := 72) hx hb dX7_execute_65 (by decide) (fun c65 => ?_) (fun c65 => ?_)
      · refine lv_iconst (v := 0) hx hb dX7_execute_72 (by decide) ?_
        refine lv_istore (lv' := [(4, .int 0), (3, .int (iN j)), (2, .int (iF j)), (0, .ref (b 0)), (1, .int (nI j))]) hx hb dX7_execute_73 hl (by decide) rfl (fun ls hl => ?_)
        refine lv_iload hx hb dX7_execute_75 (lv_at hl 0 rfl) ?_
        refine lv_if_eq (tgt := 93) hx hb dX7_execute_77 (by decide) (fun _ => ?_) (fun h => absurd h (by decide))
        refine lv_iconst (v := 0) hx hb dX7_execute_93 (by decide) ?_
        exact r_zret cX hr hlocks rfl hw (by unfold exI; (try dsimp only); rw [if_neg (fun h => if01e c65 h.2)]; exact ⟨rfl, hR⟩) dX7_execute_94
      · refine lv_iconst (v := 1) hx hb dX7_execute_68 (by decide) ?_
        refine lv_goto (tgt := 73) hx hb dX7_execute_69 (by decide) ?_
        refine lv_istore (lv' := [(4, .int 1), (3, .int (iN j)), (2, .int (iF j)), (0, .ref (b 0)), (1, .int (nI j))]) hx hb dX7_execute_73 hl (by decide) rfl (fun ls hl => ?_)
        refine lv_iload hx hb dX7_execute_75 (lv_at hl 0 rfl) ?_
        refine lv_if_eq (tgt := 93) hx hb dX7_execute_77 (by decide) (fun h => absurd h (by decide)) (fun _ => ?_)
        refine lv_aload_n hx hb dX7_execute_80 rfl (lv_at hl 3 rfl) ?_
        refine lv_iload_n hx hb dX7_execute_81 rfl (lv_at hl 2 rfl) ?_
        refine lv_iload_n hx hb dX7_execute_82 rfl (lv_at hl 1 rfl) ?_
        obtain ⟨k, hk, hxk, hxc⟩ := lit_ix 15 (by decide) (if01n c58)
        rw [hxk]
        refine r_Vi cX hw hR.1.1 rfl [.int (nI k), .int (iN j)] (c_X7_transmit l G hR.1 hv hB k hk (iN j)) wM_X7_114 mw_X7_transmit ⟨Nat.le_of_ble_eq_true rfl, Nat.le_of_ble_eq_true rfl⟩ rfl rfl hl.1 (Nat.le_of_ble_eq_true rfl) dX7_execute_83 ⟨Nat.le_of_ble_eq_true rfl, Nat.le_of_ble_eq_true rfl⟩ (fun r M1 H locs hp hw => ?_)
        obtain ⟨hr2, hp⟩ := hp
        have hR := hR.trans hp
        refine lv_if_lt (tgt := 93) hx hb dX7_execute_86 (by decide) (fun c86 => ?_) (fun c86 => ?_)
        · exact absurd c86 (by rw [hr2]; exact sd_nn hv hB hk _)
        · refine lv_iconst (v := 1) hx hb dX7_execute_89 (by decide) ?_
          refine lv_goto (tgt := 94) hx hb dX7_execute_90 (by decide) ?_
          exact r_zret cX hr hlocks rfl hw (by unfold exI; (try dsimp only); rw [if_pos (by rw [← hxk]; exact ⟨if01n c58, if01n c65⟩), nI_clamp (by omega)]; exact ⟨rfl, hR⟩) dX7_execute_94
  · obtain rfl : o = some (none, iN j) := itm_t hit hfl c17
    refine lv_aload_n hx hb dX7_execute_20 rfl (lv_at hl 2 rfl) ?_
    refine lv_iload_n hx hb dX7_execute_21 rfl (lv_at hl 0 rfl) ?_
    refine r_Vi cX hw hR.1.1 rfl [.int (iN j)] (c_X7_whyNotPass l G hR.1 hv (iN j)) wM_X7_66 mw_X7_whyNotPass ⟨Nat.le_of_ble_eq_true rfl, Nat.le_of_ble_eq_true rfl⟩ rfl rfl hl.1 (Nat.le_of_ble_eq_true rfl) dX7_execute_22 ⟨Nat.le_of_ble_eq_true rfl, Nat.le_of_ble_eq_true rfl⟩ (fun r M1 H locs hp hw => ?_)
    obtain ⟨hr1, hq⟩ := hp
    rw [hq] at hw
    clear hq
    refine lv_if_ne (tgt := 32) hx hb dX7_execute_25 (by decide) (fun c25 => ?_) (fun c25 => ?_)
    · have h83 : ¬ ((1 ≤ iN j ∧ iN j ≤ 1000) ∧ iN j ≤ tmx - f 0) := wn1 hr1 c25
      refine lv_iconst (v := 0) hx hb dX7_execute_32 (by decide) ?_
      refine lv_istore (lv' := [(4, .int 0), (3, .int (iN j)), (2, .int (iF j)), (0, .ref (b 0)), (1, .int (nI j))]) hx hb dX7_execute_33 hl (by decide) rfl (fun ls hl => ?_)
      refine lv_iload hx hb dX7_execute_35 (lv_at hl 0 rfl) ?_
      refine lv_if_eq (tgt := 52) hx hb dX7_execute_37 (by decide) (fun _ => ?_) (fun h => absurd h (by decide))
      refine lv_iconst (v := 0) hx hb dX7_execute_52 (by decide) ?_
      exact r_zret cX hr hlocks rfl hw (by unfold exI; (try dsimp only); rw [if_neg h83]; exact ⟨rfl, hR⟩) dX7_execute_53
    · obtain ⟨h81, h82⟩ := wn0 (hr1.symm.trans c25)
      refine lv_iconst (v := 1) hx hb dX7_execute_28 (by decide) ?_
      refine lv_goto (tgt := 33) hx hb dX7_execute_29 (by decide) ?_
      refine lv_istore (lv' := [(4, .int 1), (3, .int (iN j)), (2, .int (iF j)), (0, .ref (b 0)), (1, .int (nI j))]) hx hb dX7_execute_33 hl (by decide) rfl (fun ls hl => ?_)
      refine lv_iload hx hb dX7_execute_35 (lv_at hl 0 rfl) ?_
      refine lv_if_eq (tgt := 52) hx hb dX7_execute_37 (by decide) (fun h => absurd h (by decide)) (fun _ => ?_)
      refine lv_aload_n hx hb dX7_execute_40 rfl (lv_at hl 3 rfl) ?_
      refine lv_iload_n hx hb dX7_execute_41 rfl (lv_at hl 1 rfl) ?_
      obtain ⟨T0, hT0, hT1⟩ := hv.1
      obtain ⟨k, hk1, hxk, hxc, hTk⟩ := adv_ix hT0 hT1 h81 h82
      rw [hxk]
      refine r_Vi cX hw hR.1.1 rfl [.int (nI k)] (c_X7_pass l G hR.1 hv hT1 hTk) wM_X7_69 mw_X7_pass ⟨Nat.le_of_ble_eq_true rfl, Nat.le_of_ble_eq_true rfl⟩ rfl rfl hl.1 (Nat.le_of_ble_eq_true rfl) dX7_execute_42 ⟨Nat.le_of_ble_eq_true rfl, Nat.le_of_ble_eq_true rfl⟩ (fun r M1 H locs hp hw => ?_)
      obtain ⟨hr2, hp⟩ := hp
      have hR := hR.trans hp
      refine lv_if_le (tgt := 52) hx hb dX7_execute_45 (by decide) (fun c45 => ?_) (fun c45 => ?_)
      · exact absurd c45 (by rw [hr2, (hv.ps hT1 hTk k (Nat.le_refl _)).2]; exact fun h => absurd ((nI_leI (b := 0) (by omega) (by decide)).mp h) (by omega))
      · refine lv_iconst (v := 1) hx hb dX7_execute_48 (by decide) ?_
        refine lv_goto (tgt := 53) hx hb dX7_execute_49 (by decide) ?_
        exact r_zret cX hr hlocks rfl hw (by unfold exI; (try dsimp only); rw [if_pos (by rw [← hxk]; exact ⟨h81, h82⟩), nI_clamp (by omega)]; exact ⟨rfl, hR⟩) dX7_execute_53

set_option maxHeartbeats 4000000 in
set_option maxRecDepth 100000 in
theorem c_X7_runTrace (l : Launch) (G : gG) {M : HM} {b : Nat → Nat} {F : Nat → Nat → Int32} {nx cn ln : Nat} {sv sl fl T iF iN : Nat → Int32} {at_ it : Int32} (hR0 : IsRf G M b (F 0) sv sl fl T iF iN (nI cn) (nI ln) at_ it) (hsv : SVr F nx cn sv) (hsl : SLr F fl sl) (hnx : nx < 8) (hcn : cn ≤ 8) (hln : ln ≤ 120) {B : Nat} (hv : Inv B (F 0)) (hB : B + 120 < 2 ^ 30) (hT : ∀ i, i < ln → ∃ u, u < 256 ∧ T i = nI u) : Ci l yX7_runTrace cX7_runTrace 3 .int (rd 6 0 0) G [.ref (b 0)] M (fun r M' => r = (s_runTrace (F, nx, cn, fl, T, ln)).1 ∧ RZ G M M' b (s_runTrace (F, nx, cn, fl, T, ln)).2) := by
  refine Ci.of (by decide) (Nat.le_of_ble_eq_true rfl) ?_
  intro p e s m args below meth c ls cX hw hlocks hr hl
  have hx := cX.1
  have hb := cX.2.1
  have hl : lv_has ls 3 [(0, .ref (b 0))] := hl
  have hR := hR0.rf
  refine lv_aload_n hx hb dX7_runTrace_0 rfl (lv_at hl 0 rfl) ?_
  refine r_Vi cX hw hR.1.1 rfl [] (c_X7_readText l G hR.1 hln hT) wM_X7_150 mw_X7_readText ⟨Nat.le_of_ble_eq_true rfl, Nat.le_of_ble_eq_true rfl⟩ rfl rfl hl.1 (Nat.le_of_ble_eq_true rfl) dX7_runTrace_1 ⟨Nat.le_of_ble_eq_true rfl, Nat.le_of_ble_eq_true rfl⟩ (fun r M1 H locs hp hw => ?_)
  obtain ⟨g1, g2, q, k, hr1, hp, hok, hno⟩ := hp
  have hR := hR.trans hp
  refine lv_if_ne (tgt := 15) hx hb dX7_runTrace_4 (by decide) (fun c4 => ?_) (fun c4 => ?_)
  · have hf : (fnd T ln 120 0).2 = true := rz_t hr1 c4
    obtain ⟨hkK, hIT⟩ := hok hf
    have hk40 : k ≤ 40 := IT_40 hln hIT
    refine lv_aload_n hx hb dX7_runTrace_15 rfl (lv_at hl 0 rfl) ?_
    refine r_Vv cX hw hR.1.1 rfl [] (c_X7_keep l G hR.1 hcn) wM_X7_44 mw_X7_keep ⟨Nat.le_of_ble_eq_true rfl, Nat.le_of_ble_eq_true rfl⟩ rfl rfl hl.1 (Nat.le_of_ble_eq_true rfl) dX7_runTrace_16 ⟨Nat.le_of_ble_eq_true rfl, Nat.le_of_ble_eq_true rfl⟩ (fun M1 H locs hp hw => ?_)
    obtain ⟨sv', hp, hkp⟩ := hp
    have hR := hR.trans hp
    refine lv_iconst (v := 0) hx hb dX7_runTrace_19 (by decide) ?_
    refine lv_istore_n (lv' := [(1, .int 0), (0, .ref (b 0))]) hx hb dX7_runTrace_20 rfl hl (by decide) rfl (fun ls hl => ?_)
    refine lv_iconst (v := 0) hx hb dX7_runTrace_21 (by decide) ?_
    refine lv_istore_n (lv' := [(2, .int 0), (1, .int 0), (0, .ref (b 0))]) hx hb dX7_runTrace_22 rfl hl (by decide) rfl (fun ls hl => ?_)
    have lp23 : ∀ (nn i : Nat), i ≤ k → k < i + nn → ∀ (x1 : Int32) (M1 : HM) (H : Heap) (locs : List Loc) (ls : Array Slot), Wd G (dm M s.heap.size) s.heap M1 H locs → Rf G M M1 b (exS T ln (F 0) i).2 sv' sl fl T g1 g2 (nI (min (cn + 1) 8)) (nI ln) (nI q) (nI k) → x1 = (exS T ln (F 0) i).1 → lv_has ls 3 [(2, .int (nI i)), (1, .int x1), (0, .ref (b 0))] → W p l e (rd 6 0 0) s m args below meth c H locs 0 0 (MQ below (QI G M s.heap.size (fun r M' => r = (s_runTrace (F, nx, cn, fl, T, ln)).1 ∧ RZ G M M' b (s_runTrace (F, nx, cn, fl, T, ln)).2)) args s 0 0 (dm M s.heap.size)) (F0 m 23 ls []) := by
      intro nn
      induction nn with
      | zero =>
        intro i h1 h2
        exact absurd h2 (by omega)
      | succ nn ih =>
        intro i hi hin x1 M1 H locs ls hw hR hx1 hl
        refine lv_iload_n hx hb dX7_runTrace_23 rfl (lv_at hl 0 rfl) ?_
        refine lv_aload_n hx hb dX7_runTrace_24 rfl (lv_at hl 2 rfl) ?_
        refine r_get cX inX7 hw hR.1.1 rfl 8 (by decide) wF_X7_144 rfl dX7_runTrace_25 ?_
        refine lv_icmp_ge (tgt := 53) hx hb dX7_runTrace_28 (by decide) (fun c28 => ?_) (fun c28 => ?_)
        · have hik : i = k := Nat.le_antisymm hi (ix_ge (by omega) (by omega) c28)
          refine lv_aload_n hx hb dX7_runTrace_53 rfl (lv_at hl 2 rfl) ?_
          refine lv_iconst (v := 0) hx hb dX7_runTrace_54 (by decide) ?_
          refine r_put (fs' := rfO b (nI (min (cn + 1) 8)) 0 (nI q) (nI k)) cX inX7 tyX7 tyX7_ok nmX7 hw hR.1.1 rfl 6 (by decide) wF_X7_129 rfl rfl rfl rfl (Nat.le_of_ble_eq_true rfl) dX7_runTrace_55 (fun H locs hw => ?_)
          have hR := hR.ob (ct' := nI (min (cn + 1) 8)) (len' := 0) (at_' := nI q) (it' := nI k)
          rw [show (0 : Int32) = nI 0 from rfl] at hw hR
          refine lv_iload_n hx hb dX7_runTrace_58 rfl (lv_at hl 1 rfl) ?_
          exact r_iret cX hr hlocks hw (by subst hik; unfold s_runTrace; (try dsimp only); rw [if_pos hf, ← hkK]; exact ⟨hx1, (RZ.psh (ln := 0) hR hsv hsl hnx hcn (Nat.zero_le _) hkp : RZ G M _ b (psh (F, nx, cn, fl, T, 0) (exS T ln (F 0) i).2))⟩) dX7_runTrace_59
        · have hlt : i < k := ix_lt (by omega) c28
          refine lv_iload_n hx hb dX7_runTrace_31 rfl (lv_at hl 1 rfl) ?_
          refine lv_aload_n hx hb dX7_runTrace_32 rfl (lv_at hl 2 rfl) ?_
          refine lv_iload_n hx hb dX7_runTrace_33 rfl (lv_at hl 0 rfl) ?_
          refine r_Vi cX hw hR.1.1 rfl [.int (nI i)] (c_X7_execute l G hR.1 (hv.xS i (by omega)) (by omega) i (by omega) (hIT i hlt) (fun v s h => rI_flow h)) wM_X7_153 mw_X7_execute ⟨Nat.le_of_ble_eq_true rfl, Nat.le_of_ble_eq_true rfl⟩ rfl rfl hl.1 (Nat.le_of_ble_eq_true rfl) dX7_runTrace_34 ⟨Nat.le_of_ble_eq_true rfl, Nat.le_of_ble_eq_true rfl⟩ (fun r M1 H locs hp hw => ?_)
          obtain ⟨hr2, hp⟩ := hp
          have hR := hR.trans hp
          refine lv_if_eq (tgt := 44) hx hb dX7_runTrace_37 (by decide) (fun c37 => ?_) (fun c37 => ?_)
          · refine lv_iconst (v := 0) hx hb dX7_runTrace_44 (by decide) ?_
            refine lv_iadd hx hb dX7_runTrace_45 ?_
            refine lv_istore_n (lv' := [(1, .int (x1 + 0)), (2, .int (nI i)), (0, .ref (b 0))]) hx hb dX7_runTrace_46 rfl hl (by decide) rfl (fun ls hl => ?_)
            refine lv_iinc (v := (nI (i + 1))) (lv' := [(2, .int (nI (i + 1))), (1, .int (x1 + 0)), (0, .ref (b 0))]) hx hb dX7_runTrace_47 hl (k := 1) rfl (nI_1 i) (by decide) rfl (fun ls hl => ?_)
            refine lv_goto (tgt := 23) hx hb dX7_runTrace_50 (by decide) ?_
            exact ih (i + 1) (by omega) (by omega) (x1 + 0) _ _ _ _ hw hR (by rw [hx1]; exact rt_x2 hr2 c37) (lv_sub hl [0, 1, 2] rfl)
          · refine lv_iconst (v := 1) hx hb dX7_runTrace_40 (by decide) ?_
            refine lv_goto (tgt := 45) hx hb dX7_runTrace_41 (by decide) ?_
            refine lv_iadd hx hb dX7_runTrace_45 ?_
            refine lv_istore_n (lv' := [(1, .int (x1 + 1)), (2, .int (nI i)), (0, .ref (b 0))]) hx hb dX7_runTrace_46 rfl hl (by decide) rfl (fun ls hl => ?_)
            refine lv_iinc (v := (nI (i + 1))) (lv' := [(2, .int (nI (i + 1))), (1, .int (x1 + 1)), (0, .ref (b 0))]) hx hb dX7_runTrace_47 hl (k := 1) rfl (nI_1 i) (by decide) rfl (fun ls hl => ?_)
            refine lv_goto (tgt := 23) hx hb dX7_runTrace_50 (by decide) ?_
            exact ih (i + 1) (by omega) (by omega) (x1 + 1) _ _ _ _ hw hR (by rw [hx1]; exact rt_x1 hr2 c37) (lv_sub hl [0, 1, 2] rfl)
    exact lp23 (k + 1) 0 (by omega) (by omega) 0 _ _ _ _ hw hR rfl (lv_sub hl [0, 1, 2] rfl)
  · have hf : ¬ (fnd T ln 120 0).2 = true := rz_f hr1 c4
    refine lv_bipush (v := (-10)) hx hb dX7_runTrace_7 (by decide) ?_
    refine lv_aload_n hx hb dX7_runTrace_9 rfl (lv_at hl 0 rfl) ?_
    refine r_get cX inX7 hw hR.1.1 rfl 7 (by decide) wF_X7_132 rfl dX7_runTrace_10 ?_
    refine lv_isub hx hb dX7_runTrace_13 ?_
    exact r_iret cX hr hlocks hw (by unfold s_runTrace; (try dsimp only); rw [if_neg hf, ← hno hf]; exact ⟨rfl, sv, sl, g1, g2, _, _, hR, hsv, hsl, hnx, hcn, hln⟩) dX7_runTrace_14
