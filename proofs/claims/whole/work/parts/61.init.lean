theorem dfX0 : ∀ j, j < 4 → defaultValue (tyX0 j) = vp_V [.int 0, .int 0, .int 0, .int 0] j := by
  intro j hj
  rcases (show j = 0 ∨ j = 1 ∨ j = 2 ∨ j = 3 by omega) with rfl | rfl | rfl | rfl <;> rfl
theorem dfX1 : ∀ j, j < 5 → defaultValue (tyX1 j) = vp_V [.int 0, .int 0, .int 0, .int 0, .int 0] j := by
  intro j hj
  rcases (show j = 0 ∨ j = 1 ∨ j = 2 ∨ j = 3 ∨ j = 4 by omega) with rfl | rfl | rfl | rfl | rfl <;> rfl
theorem dfX2 : ∀ j, j < 8 → defaultValue (tyX2 j) = vp_V [.int 0, .int 0, .int 0, .int 0, .int 0, .int 0, .int 0, .int 0] j := by
  intro j hj
  rcases (show j = 0 ∨ j = 1 ∨ j = 2 ∨ j = 3 ∨ j = 4 ∨ j = 5 ∨ j = 6 ∨ j = 7 by omega) with rfl | rfl | rfl | rfl | rfl | rfl | rfl | rfl <;> rfl
theorem dfX3 : ∀ j, j < 3 → defaultValue (tyX3 j) = vp_V [.null, .int 0, .int 0] j := by
  intro j hj
  rcases (show j = 0 ∨ j = 1 ∨ j = 2 by omega) with rfl | rfl | rfl <;> rfl
theorem dfX4 : ∀ j, j < 12 → defaultValue (tyX4 j) = vp_V [.int 0, .int 0, .int 0, .int 0, .int 0, .int 0, .int 0, .int 0, .int 0, .null, .null, .null] j := by
  intro j hj
  rcases (show j = 0 ∨ j = 1 ∨ j = 2 ∨ j = 3 ∨ j = 4 ∨ j = 5 ∨ j = 6 ∨ j = 7 ∨ j = 8 ∨ j = 9 ∨ j = 10 ∨ j = 11 by omega) with rfl | rfl | rfl | rfl | rfl | rfl | rfl | rfl | rfl | rfl | rfl | rfl <;> rfl
theorem dfX5 : ∀ j, j < 6 → defaultValue (tyX5 j) = vp_V [.null, .int 0, .int 0, .int 0, .int 0, .int 0] j := by
  intro j hj
  rcases (show j = 0 ∨ j = 1 ∨ j = 2 ∨ j = 3 ∨ j = 4 ∨ j = 5 by omega) with rfl | rfl | rfl | rfl | rfl | rfl <;> rfl
theorem dfX6 : ∀ j, j < 5 → defaultValue (tyX6 j) = vp_V [.null, .null, .null, .null, .null] j := by
  intro j hj
  rcases (show j = 0 ∨ j = 1 ∨ j = 2 ∨ j = 3 ∨ j = 4 by omega) with rfl | rfl | rfl | rfl | rfl <;> rfl
theorem dfX7 : ∀ j, j < 11 → defaultValue (tyX7 j) = vp_V [.null, .null, .int 0, .null, .null, .null, .int 0, .int 0, .int 0, .null, .null] j := by
  intro j hj
  rcases (show j = 0 ∨ j = 1 ∨ j = 2 ∨ j = 3 ∨ j = 4 ∨ j = 5 ∨ j = 6 ∨ j = 7 ∨ j = 8 ∨ j = 9 ∨ j = 10 by omega) with rfl | rfl | rfl | rfl | rfl | rfl | rfl | rfl | rfl | rfl | rfl <;> rfl
theorem Kp.trans {M M1 M2 : HM} {a : Nat} (h : Kp M M1 a) (h2 : Kp M1 M2 a) : Kp M M2 a := fun q e hq he => h2 q e hq (h q e hq he)
theorem IsSt.kp {G : gG} {M M1 : HM} {a : Nat} {L : Nat → Nat} {f : Nat → Int32} (h : IsSt G M L f) (hk : Kp M M1 a) (hn : ∀ k, k < 32 → L k ≠ a) : IsSt G M1 L f := h.kept (fun k hk' => by
  obtain ⟨e, he⟩ := h.all k hk'
  rw [he]
  exact hk _ _ (hn k hk') he)
theorem IsSt.ne {G : gG} {M : HM} {q : Nat} {L : Nat → Nat} {f : Nat → Int32} (h : IsSt G M L f) (hq : M q = none) : ∀ k, k < 32 → L k ≠ q := fun k hk => by
  obtain ⟨e, he⟩ := h.all k hk
  exact ne_some hq he
theorem Sts.kp {G : gG} {M M1 M2 : HM} {a r N n : Nat} {LL : Nat → Nat → Nat} (h : Sts G M M1 r N n LL) (hk : Kp M1 M2 a) (hr : r ≠ a) (hn : ∀ i k, i < n → k < 32 → LL i k ≠ a) : Sts G M M2 r N n LL := h.kept (fun q x hq hx => hk q x (by
  rcases hq with rfl | ⟨i, k, hi, hk', rfl⟩
  · exact hr
  · exact hn i k hi hk') hx)
theorem Sts.ne {G : gG} {M M1 : HM} {q r N n : Nat} {LL : Nat → Nat → Nat} (h : Sts G M M1 r N n LL) (hq : M1 q = none) : ∀ i k, i < n → k < 32 → LL i k ≠ q := fun i k hi hk => by
  obtain ⟨e, he⟩ := h.all hi hk
  exact ne_some hq he
def adF (sp : Nat → Nat) (LL : Nat → Nat → Nat) : Nat → Nat := fun i => if i < 7 then sp i else LL ((i - 7) / 32) ((i - 7) % 32)
theorem adF_st (sp : Nat → Nat) (LL : Nat → Nat → Nat) (j k : Nat) (hk : k < 32) : Lst (adF sp LL) j k = LL j k := by
  show (if 7 + 32 * j + k < 7 then _ else LL ((7 + 32 * j + k - 7) / 32) ((7 + 32 * j + k - 7) % 32)) = _
  rw [if_neg (by omega), show (7 + 32 * j + k - 7) / 32 = j by omega, show (7 + 32 * j + k - 7) % 32 = k by omega]
theorem adF_inj {sp : Nat → Nat} {LL : Nat → Nat → Nat} (h1 : Inj sp 7) (h2 : ∀ j, j < 11 → Inj (LL j) 32) (h3 : ∀ j j' k k', j < 11 → j' < 11 → k < 32 → k' < 32 → LL j k = LL j' k' → j = j') (h4 : ∀ i j k, i < 7 → j < 11 → k < 32 → sp i ≠ LL j k) : Inj (adF sp LL) 359 := by
  intro i j hi hj z
  unfold adF at z
  have mi : (i - 7) % 32 < 32 := Nat.mod_lt _ (by decide)
  have mj : (j - 7) % 32 < 32 := Nat.mod_lt _ (by decide)
  by_cases a : i < 7
  · by_cases b : j < 7
    · rw [if_pos a, if_pos b] at z
      exact h1 i j a b z
    · rw [if_pos a, if_neg b] at z
      exact absurd z (h4 i _ _ a (by omega) mj)
  · by_cases b : j < 7
    · rw [if_neg a, if_pos b] at z
      exact absurd z.symm (h4 j _ _ b (by omega) mi)
    · rw [if_neg a, if_neg b] at z
      have e := h3 _ _ _ _ (by omega) (by omega) mi mj z
      rw [e] at z
      have e2 := h2 _ (by omega) _ _ mi mj z
      omega
def spF (a q1 r r3 fb t cq : Nat) : Nat → Nat := fun i => match i with
  | 0 => a
  | 1 => q1
  | 2 => r
  | 3 => r3
  | 4 => fb
  | 5 => t
  | _ => cq
def llF3 (L0 : Nat → Nat) (LR LS : Nat → Nat → Nat) : Nat → Nat → Nat := fun j => if j = 0 then L0 else if j < 9 then LR (j - 1) else LS (j - 9)
theorem ll_c (j : Nat) (hj : j < 11) (L0 : Nat → Nat) (LR LS : Nat → Nat → Nat) : (j = 0 ∧ llF3 L0 LR LS j = L0) ∨ (1 ≤ j ∧ j - 1 < 8 ∧ llF3 L0 LR LS j = LR (j - 1)) ∨ (9 ≤ j ∧ j - 9 < 2 ∧ llF3 L0 LR LS j = LS (j - 9)) := by
  unfold llF3
  by_cases c : j = 0
  · exact Or.inl ⟨c, if_pos c⟩
  · rw [if_neg c]
    by_cases d : j < 9
    · exact Or.inr (Or.inl ⟨by omega, by omega, if_pos d⟩)
    · exact Or.inr (Or.inr ⟨by omega, by omega, if_neg d⟩)
theorem mkCl {G : gG} {M6 M4 M : HM} {a q1 r r3 fb t cq : Nat} {L0 : Nat → Nat} {LR LS : Nat → Nat → Nat}
    (h0 : M a = some (.inr (6, [.ref (L0 0), .ref q1, .ref r3, .ref fb, .ref t]))) (hq1 : M q1 = some (.inr (3, [.ref r, .int 0, .int 0]))) (hR : Sts G M4 M r 8 8 LR) (hS : Sts G M6 M r3 2 2 LS) (hf : M fb = some (.inl (G.2 1, 2, .inl (fun _ => 0)))) (ht : M t = some (.inr (5, [.ref cq, .int 0, .int 0, .int 0, .int 0, .int 0]))) (hc : M cq = some (.inl (G.2 0, 120, .inl (fun _ => 0)))) (hL : IsSt G M L0 (iniF 4 8))
    (na : q1 ≠ a ∧ r ≠ a ∧ r3 ≠ a ∧ fb ≠ a ∧ t ≠ a ∧ cq ≠ a) (n1 : r ≠ q1 ∧ q1 ≠ r3 ∧ q1 ≠ fb ∧ q1 ≠ t ∧ q1 ≠ cq) (n2 : r ≠ r3 ∧ r ≠ fb ∧ r ≠ t ∧ r ≠ cq) (n3 : r3 ≠ fb ∧ r3 ≠ t ∧ r3 ≠ cq) (n4 : fb ≠ t ∧ fb ≠ cq ∧ cq ≠ t)
    (nL : (∀ k, k < 32 → L0 k ≠ a) ∧ (∀ k, k < 32 → L0 k ≠ q1) ∧ (∀ k, k < 32 → L0 k ≠ r) ∧ (∀ k, k < 32 → L0 k ≠ r3) ∧ (∀ k, k < 32 → L0 k ≠ fb) ∧ (∀ k, k < 32 → L0 k ≠ t) ∧ (∀ k, k < 32 → L0 k ≠ cq))
    (nR : (∀ i k, i < 8 → k < 32 → LR i k ≠ a) ∧ (∀ i k, i < 8 → k < 32 → LR i k ≠ q1) ∧ (∀ i k, i < 8 → k < 32 → LR i k ≠ r3) ∧ (∀ i k, i < 8 → k < 32 → LR i k ≠ fb) ∧ (∀ i k, i < 8 → k < 32 → LR i k ≠ t) ∧ (∀ i k, i < 8 → k < 32 → LR i k ≠ cq))
    (nS : (∀ i k, i < 2 → k < 32 → LS i k ≠ a) ∧ (∀ i k, i < 2 → k < 32 → q1 ≠ LS i k) ∧ (∀ i k, i < 2 → k < 32 → r ≠ LS i k) ∧ (∀ i k, i < 2 → k < 32 → LS i k ≠ fb) ∧ (∀ i k, i < 2 → k < 32 → LS i k ≠ t) ∧ (∀ i k, i < 2 → k < 32 → LS i k ≠ cq))
    (x1 : ∀ i k, i < 8 → k < 32 → ∀ j, j < 32 → L0 j ≠ LR i k) (x2 : ∀ i k, i < 2 → k < 32 → ∀ j, j < 32 → L0 j ≠ LS i k) (x3 : ∀ i k, i < 2 → k < 32 → ∀ i2 k2, i2 < 8 → k2 < 32 → LR i2 k2 ≠ LS i k) :
    IsCl G M (adF (spF a q1 r r3 fb t cq) (llF3 L0 LR LS)) (fun _ => iniF 4 8) 0 0 (fun _ => 0) (fun _ => 0) 0 (fun _ => 0) := by
  obtain ⟨a1, a2, a3, a4, a5, a6⟩ := na
  obtain ⟨b1, b2, b3, b4, b5⟩ := n1
  obtain ⟨c1, c2, c3, c4⟩ := n2
  obtain ⟨d1, d2, d3⟩ := n3
  obtain ⟨e1, e2, e3⟩ := n4
  obtain ⟨l0, l1, l2, l3, l4, l5, l6⟩ := nL
  obtain ⟨r0, r1, r3', r4, r5, r6⟩ := nR
  obtain ⟨s0, s1, s2, s4, s5, s6⟩ := nS
  have lst : ∀ j, j < 11 → IsSt G M (llF3 L0 LR LS j) (iniF 4 8) := fun j hj => by
    rcases ll_c j hj L0 LR LS with ⟨_, e⟩ | ⟨_, h, e⟩ | ⟨_, h, e⟩
    · rw [e]; exact hL
    · rw [e]; exact hR.2.1 _ h
    · rw [e]; exact hS.2.1 _ h
  have hI : Inj (adF (spF a q1 r r3 fb t cq) (llF3 L0 LR LS)) 359 := by
    refine adF_inj ?_ (fun j hj => ((lst j hj).2.2.2.2.2.2.2.1)) ?_ ?_
    · intro i j hi hj z
      rcases (show i = 0 ∨ i = 1 ∨ i = 2 ∨ i = 3 ∨ i = 4 ∨ i = 5 ∨ i = 6 by omega) with rfl | rfl | rfl | rfl | rfl | rfl | rfl <;> rcases (show j = 0 ∨ j = 1 ∨ j = 2 ∨ j = 3 ∨ j = 4 ∨ j = 5 ∨ j = 6 by omega) with rfl | rfl | rfl | rfl | rfl | rfl | rfl <;> first | rfl | exact absurd z a1 | exact absurd z.symm a1 | exact absurd z a2 | exact absurd z.symm a2 | exact absurd z a3 | exact absurd z.symm a3 | exact absurd z a4 | exact absurd z.symm a4 | exact absurd z a5 | exact absurd z.symm a5 | exact absurd z a6 | exact absurd z.symm a6 | exact absurd z b1 | exact absurd z.symm b1 | exact absurd z b2 | exact absurd z.symm b2 | exact absurd z b3 | exact absurd z.symm b3 | exact absurd z b4 | exact absurd z.symm b4 | exact absurd z b5 | exact absurd z.symm b5 | exact absurd z c1 | exact absurd z.symm c1 | exact absurd z c2 | exact absurd z.symm c2 | exact absurd z c3 | exact absurd z.symm c3 | exact absurd z c4 | exact absurd z.symm c4 | exact absurd z d1 | exact absurd z.symm d1 | exact absurd z d2 | exact absurd z.symm d2 | exact absurd z d3 | exact absurd z.symm d3 | exact absurd z e1 | exact absurd z.symm e1 | exact absurd z e2 | exact absurd z.symm e2 | exact absurd z e3 | exact absurd z.symm e3
    · intro j j' k k' hj hj' hk hk' z
      rcases ll_c j hj L0 LR LS with ⟨h1, e⟩ | ⟨h1, h, e⟩ | ⟨h1, h, e⟩ <;> rcases ll_c j' hj' L0 LR LS with ⟨h1', e'⟩ | ⟨h1', h', e'⟩ | ⟨h1', h', e'⟩ <;> rw [e, e'] at z
      · omega
      · exact absurd z (x1 _ _ h' hk' _ hk)
      · exact absurd z (x2 _ _ h' hk' _ hk)
      · exact absurd z.symm (x1 _ _ h hk _ hk')
      · have := hR.2.2.2 _ _ _ _ h h' hk hk' z
        omega
      · exact absurd z (x3 _ _ h' hk' _ _ h hk)
      · exact absurd z.symm (x2 _ _ h hk _ hk')
      · exact absurd z.symm (x3 _ _ h hk _ _ h' hk')
      · have := hS.2.2.2 _ _ _ _ h h' hk hk' z
        omega
    · intro i j k hi hj hk z
      rcases ll_c j hj L0 LR LS with ⟨h1, e⟩ | ⟨h1, h, e⟩ | ⟨h1, h, e⟩ <;> rw [e] at z
      · rcases (show i = 0 ∨ i = 1 ∨ i = 2 ∨ i = 3 ∨ i = 4 ∨ i = 5 ∨ i = 6 by omega) with rfl | rfl | rfl | rfl | rfl | rfl | rfl
        · exact l0 k hk z.symm
        · exact l1 k hk z.symm
        · exact l2 k hk z.symm
        · exact l3 k hk z.symm
        · exact l4 k hk z.symm
        · exact l5 k hk z.symm
        · exact l6 k hk z.symm
      · rcases (show i = 0 ∨ i = 1 ∨ i = 2 ∨ i = 3 ∨ i = 4 ∨ i = 5 ∨ i = 6 by omega) with rfl | rfl | rfl | rfl | rfl | rfl | rfl
        · exact r0 _ k h hk z.symm
        · exact r1 _ k h hk z.symm
        · exact (hR.2.2.1 _ k h hk).2 z.symm
        · exact r3' _ k h hk z.symm
        · exact r4 _ k h hk z.symm
        · exact r5 _ k h hk z.symm
        · exact r6 _ k h hk z.symm
      · rcases (show i = 0 ∨ i = 1 ∨ i = 2 ∨ i = 3 ∨ i = 4 ∨ i = 5 ∨ i = 6 by omega) with rfl | rfl | rfl | rfl | rfl | rfl | rfl
        · exact s0 _ k h hk z.symm
        · exact s1 _ k h hk z
        · exact s2 _ k h hk z
        · exact (hS.2.2.1 _ k h hk).2 z.symm
        · exact s4 _ k h hk z.symm
        · exact s5 _ k h hk z.symm
        · exact s6 _ k h hk z.symm
  obtain ⟨g2, hg2, hg2_⟩ := hR.1
  obtain ⟨g3, hg3, hg3_⟩ := hS.1
  refine ⟨?_, hq1, ⟨g2, hg2, fun i hi => ?_⟩, ⟨g3, hg3, fun i hi => ?_⟩, hf, ht, hc, fun j hj => (lst j hj).reL (fun k hk => adF_st _ _ _ _ hk), hI, by decide, by decide, by decide, fun _ _ => Or.inl rfl, Or.inl rfl⟩
  · rw [adF_st _ _ 0 0 (by decide)]
    exact h0
  · rw [adF_st _ _ _ 0 (by decide), hg2_ i hi]
    unfold llF3
    rw [if_neg (by omega), if_pos (by omega), Nat.add_sub_cancel]
  · rw [adF_st _ _ _ 0 (by decide), hg3_ i hi]
    unfold llF3
    rw [if_neg (by omega), if_neg (by omega), Nat.add_sub_cancel]
set_option maxHeartbeats 4000000 in
set_option maxRecDepth 100000 in
theorem c_X5_init (l : Launch) (G : gG) {M : HM} {a : Nat} (h0 : M a = some (.inr (5, [.null, .int 0, .int 0, .int 0, .int 0, .int 0]))) : Cv l yX5_init cX5_init 1 (rd 1 1 120) G [.ref a] M (fun M' => ∃ (c : Nat) (M1 : HM), M c = none ∧ M1 = mu M c (.inl (G.2 0, 120, .inl (fun _ => 0))) ∧ M' = mu M1 a (.inr (5, [.ref c, .int 0, .int 0, .int 0, .int 0, .int 0]))) := by
  refine Cv.of (by decide) (Nat.le_of_ble_eq_true rfl) ?_
  intro p e s m args below meth c ls cX hw hlocks hr hnm hl
  have hx := cX.1
  have hb := cX.2.1
  have hl : lv_has ls 1 [(0, .ref a)] := hl
  refine lv_aload_n hx hb dX5_init_0 rfl (lv_at hl 0 rfl) ?_
  refine W.objInit hx hb cX.2.2.2.1 (cX.2.2.2.2.ts _ wM_X5_3) (cX.2.2.2.2.ts _ wI_obj) (cX.2.2.2.2.ts _ wC_obj) rfl (by rw [cX.2.2.1]; exact hl.1) rfl dX5_init_1 (Nat.le_of_ble_eq_true rfl) (Nat.le_of_ble_eq_true rfl) ?_
  refine W.eq (g2 := F0 m 4 ls []) rfl ?_
  refine lv_aload_n hx hb dX5_init_4 rfl (lv_at hl 0 rfl) ?_
  refine lv_bipush (v := 120) hx hb dX5_init_5 (by decide) ?_
  refine r_newa (atype := .int) (ty := .int) cX cX.2.2.2.2.2.2.2.1 rfl 0 rfl (fun C h => by cases h) rfl hw 120 (by decide) rfl (by decide) (by show 0 + 1 ≤ 1; omega) (by show 0 + 120 ≤ 120; omega) dX5_init_7 (fun q H hq hw => ?_)
  obtain ⟨N1, eN1⟩ : ∃ X : HM, X = mu M q (.inl (G.2 0, 120, .inl (fun _ => 0))) := ⟨_, rfl⟩
  have hw := hw.to eN1.symm
  refine W.widen (k := 1) (n := 120) (by show 0 + 1 ≤ 1; omega) (by show 0 + 120 ≤ 120; omega) ?_
  have h1 := at_old eN1 (ne_some hq h0) h0
  refine r_putF (fs' := [.ref q, .int 0, .int 0, .int 0, .int 0, .int 0]) cX inX5 tyX5 tyX5_ok nmX5 hw h1 rfl 0 (by decide) wF_X5_9 rfl hnm rfl rfl rfl rfl (Nat.le_of_ble_eq_true rfl) dX5_init_9 (fun H locs hw => ?_)
  obtain ⟨N2, eN2⟩ : ∃ X : HM, X = mu N1 a (.inr (5, [.ref q, .int 0, .int 0, .int 0, .int 0, .int 0])) := ⟨_, rfl⟩
  have hw := hw.to eN2.symm
  exact r_vret cX hr hlocks hw ⟨q, N1, hq, eN1, eN2⟩ dX5_init_12

set_option maxHeartbeats 4000000 in
set_option maxRecDepth 100000 in
theorem c_X4_init (l : Launch) (G : gG) {M : HM} {a : Nat} (h0 : M a = some (.inr (4, [.int 0, .int 0, .int 0, .int 0, .int 0, .int 0, .int 0, .int 0, .int 0, .null, .null, .null]))) : Cv l yX4_init cX4_init 2 (rd 2 31 172) G [.ref a] M (fun M' => ∃ L : Nat → Nat, L 0 = a ∧ NewSt G M M' L) := by
  refine Cv.of (by decide) (Nat.le_of_ble_eq_true rfl) ?_
  intro p e s m args below meth c ls cX hw hlocks hr hnm hl
  have hx := cX.1
  have hb := cX.2.1
  have hl : lv_has ls 2 [(0, .ref a)] := hl
  refine lv_aload_n hx hb dX4_init_0 rfl (lv_at hl 0 rfl) ?_
  refine W.objInit hx hb cX.2.2.2.1 (cX.2.2.2.2.ts _ wM_X4_3) (cX.2.2.2.2.ts _ wI_obj) (cX.2.2.2.2.ts _ wC_obj) rfl (by rw [cX.2.2.1]; exact hl.1) rfl dX4_init_1 (Nat.le_of_ble_eq_true rfl) (Nat.le_of_ble_eq_true rfl) ?_
  refine W.eq (g2 := F0 m 4 ls []) rfl ?_
  refine lv_aload_n hx hb dX4_init_4 rfl (lv_at hl 0 rfl) ?_
  refine lv_iconst (v := 4) hx hb dX4_init_5 (by decide) ?_
  refine r_newq cX wL_X4_9 cX.2.2.2.2.2.2.1.2.2.1 4 rfl hw 4 (by decide) rfl (by decide) (by show 0 + 1 ≤ 31; omega) (by show 0 + 4 ≤ 172; omega) dX4_init_6 (fun p1 H hp1 hw => ?_)
  obtain ⟨N1, eN1⟩ : ∃ X : HM, X = mu M p1 (.inl (G.2 4, 4, .inr (.inr (.inr (.inr (fun _ => none)))))) := ⟨_, rfl⟩
  have hw := hw.to eN1.symm
  refine W.widen (k := 1) (n := 4) (by show 0 + 1 ≤ 1; omega) (by show 0 + 4 ≤ 4; omega) ?_
  have n1 := ne_some hp1 h0
  have h0 := at_old eN1 n1 h0
  refine r_putF (fs' := [.int 0, .int 0, .int 0, .int 0, .int 0, .int 0, .int 0, .int 0, .int 0, .ref p1, .null, .null]) cX inX4 tyX4 tyX4_ok nmX4 hw h0 rfl 9 (by decide) wF_X4_11 rfl hnm rfl rfl rfl rfl (Nat.le_of_ble_eq_true rfl) dX4_init_9 (fun H locs hw => ?_)
  obtain ⟨N2, eN2⟩ : ∃ X : HM, X = mu N1 a (.inr (4, [.int 0, .int 0, .int 0, .int 0, .int 0, .int 0, .int 0, .int 0, .int 0, .ref p1, .null, .null])) := ⟨_, rfl⟩
  have hw := hw.to eN2.symm
  have h0 := at_new eN2
  have h1 := at_old eN2 n1.symm (at_new eN1)
  refine lv_aload_n hx hb dX4_init_12 rfl (lv_at hl 0 rfl) ?_
  refine lv_bipush (v := 8) hx hb dX4_init_13 (by decide) ?_
  refine r_newq cX wL_X4_17 cX.2.2.2.2.2.2.1.1 2 rfl hw 8 (by decide) rfl (by decide) (by show 1 + 1 ≤ 31; omega) (by show 4 + 8 ≤ 172; omega) dX4_init_15 (fun p2 H hp2 hw => ?_)
  obtain ⟨N3, eN3⟩ : ∃ X : HM, X = mu N2 p2 (.inl (G.2 2, 8, .inr (.inr (.inr (.inr (fun _ => none)))))) := ⟨_, rfl⟩
  have hw := hw.to eN3.symm
  refine W.widen (k := 2) (n := 12) (by show 1 + 1 ≤ 2; omega) (by show 4 + 8 ≤ 12; omega) ?_
  have n2 := ne_some hp2 h0
  have n12 := ne_some hp2 h1
  have h0 := at_old eN3 n2 h0
  have h1 := at_old eN3 n12 h1
  refine r_putF (fs' := [.int 0, .int 0, .int 0, .int 0, .int 0, .int 0, .int 0, .int 0, .int 0, .ref p1, .ref p2, .null]) cX inX4 tyX4 tyX4_ok nmX4 hw h0 rfl 10 (by decide) wF_X4_19 rfl hnm rfl rfl rfl rfl (Nat.le_of_ble_eq_true rfl) dX4_init_18 (fun H locs hw => ?_)
  obtain ⟨N4, eN4⟩ : ∃ X : HM, X = mu N3 a (.inr (4, [.int 0, .int 0, .int 0, .int 0, .int 0, .int 0, .int 0, .int 0, .int 0, .ref p1, .ref p2, .null])) := ⟨_, rfl⟩
  have hw := hw.to eN4.symm
  have h0 := at_new eN4
  have h1 := at_old eN4 n1.symm h1
  have h2 := at_old eN4 n2.symm (at_new eN3)
  refine lv_aload_n hx hb dX4_init_21 rfl (lv_at hl 0 rfl) ?_
  refine lv_bipush (v := 16) hx hb dX4_init_22 (by decide) ?_
  refine r_newq cX wL_X4_23 cX.2.2.2.2.2.2.1.2.1 3 rfl hw 16 (by decide) rfl (by decide) (by show 2 + 1 ≤ 31; omega) (by show 12 + 16 ≤ 172; omega) dX4_init_24 (fun p3 H hp3 hw => ?_)
  obtain ⟨N5, eN5⟩ : ∃ X : HM, X = mu N4 p3 (.inl (G.2 3, 16, .inr (.inr (.inr (.inr (fun _ => none)))))) := ⟨_, rfl⟩
  have hw := hw.to eN5.symm
  refine W.widen (k := 3) (n := 28) (by show 2 + 1 ≤ 3; omega) (by show 12 + 16 ≤ 28; omega) ?_
  have n3 := ne_some hp3 h0
  have n13 := ne_some hp3 h1
  have n23 := ne_some hp3 h2
  have h0 := at_old eN5 n3 h0
  have h1 := at_old eN5 n13 h1
  have h2 := at_old eN5 n23 h2
  refine r_putF (fs' := [.int 0, .int 0, .int 0, .int 0, .int 0, .int 0, .int 0, .int 0, .int 0, .ref p1, .ref p2, .ref p3]) cX inX4 tyX4 tyX4_ok nmX4 hw h0 rfl 11 (by decide) wF_X4_25 rfl hnm rfl rfl rfl rfl (Nat.le_of_ble_eq_true rfl) dX4_init_27 (fun H locs hw => ?_)
  obtain ⟨N6, eN6⟩ : ∃ X : HM, X = mu N5 a (.inr (4, [.int 0, .int 0, .int 0, .int 0, .int 0, .int 0, .int 0, .int 0, .int 0, .ref p1, .ref p2, .ref p3])) := ⟨_, rfl⟩
  have hw := hw.to eN6.symm
  have h0 := at_new eN6
  have h1 := at_old eN6 n1.symm h1
  have h2 := at_old eN6 n2.symm h2
  have h3 := at_old eN6 n3.symm (at_new eN5)
  have k2 := (((Kp.rf M a).nw hp1 eN1).pt eN2)
  have k4 := ((k2.nw hp2 eN3).pt eN4)
  have k6 := ((k4.nw hp3 eN5).pt eN6)
  have f2 : M p2 = none := k2.fr (at_new eN2) hp2
  have f3 : M p3 = none := k4.fr (at_new eN4) hp3
  have hB : Bld G M N6 (fun j => match j with | 0 => a | 1 => p1 | 2 => p2 | _ => p3) (4 + 0) := by
    refine ⟨fun i j hi hj z => ?_, fun j h1 h2 => ?_, k6, h0, ⟨_, h1, fun i _ hi => absurd hi (by omega)⟩, ⟨_, h2, fun i _ hi => absurd hi (by omega)⟩, ⟨_, h3, fun i _ hi => absurd hi (by omega)⟩, fun i _ hi => absurd hi (by omega), fun i _ hi => absurd hi (by omega), fun i _ hi => absurd hi (by omega)⟩
    · rcases (show i = 0 ∨ i = 1 ∨ i = 2 ∨ i = 3 by omega) with rfl | rfl | rfl | rfl <;> rcases (show j = 0 ∨ j = 1 ∨ j = 2 ∨ j = 3 by omega) with rfl | rfl | rfl | rfl <;> first | rfl | exact absurd z n1 | exact absurd z n2 | exact absurd z n3 | exact absurd z n12 | exact absurd z n13 | exact absurd z n23 | exact absurd z.symm n1 | exact absurd z.symm n2 | exact absurd z.symm n3 | exact absurd z.symm n12 | exact absurd z.symm n13 | exact absurd z.symm n23
    · rcases (show j = 1 ∨ j = 2 ∨ j = 3 by omega) with rfl | rfl | rfl
      · exact hp1
      · exact f2
      · exact f3
  generalize hL0 : (fun j => match j with | 0 => a | 1 => p1 | 2 => p2 | _ => p3 : Nat → Nat) = L at hB
  have hLa : L 0 = a := (congrFun hL0 0).symm
  refine lv_iconst (v := 0) hx hb dX4_init_30 (by decide) ?_
  refine lv_istore_n (lv' := [(1, .int 0), (0, .ref a)]) hx hb dX4_init_31 rfl hl (by decide) rfl (fun ls hl => ?_)
  have lp32 : ∀ (nn i : Nat), i ≤ 4 → 4 < i + nn → ∀ (L : Nat → Nat) (M1 : HM) (H : Heap) (locs : List Loc) (ls : Array Slot), Wd G (dm M s.heap.size) s.heap M1 H locs → Bld G M M1 L (4 + i) → L 0 = a → lv_has ls 2 [(1, .int (nI i)), (0, .ref a)] → W p l e (rd 2 31 172) s m args below meth c H locs (3 + i) (28 + 8 * i) (MQ below (QV G M s.heap.size (fun M' => ∃ L : Nat → Nat, L 0 = a ∧ NewSt G M M' L)) args s 31 172 (dm M s.heap.size)) (F0 m 32 ls []) := by
    intro nn
    induction nn with
    | zero =>
      intro i h1 h2
      exact absurd h2 (by omega)
    | succ nn ih =>
      intro i hi hin L M1 H locs ls hw hB hLa hl
      have h0 := hB.2.2.2.1
      rw [hLa] at h0
      refine lv_iload_n hx hb dX4_init_32 rfl (lv_at hl 0 rfl) ?_
      refine lv_iconst (v := 4) hx hb dX4_init_33 (by decide) ?_
      refine lv_icmp_ge (tgt := 56) hx hb dX4_init_34 (by decide) (fun c34 => ?_) (fun c34 => ?_)
      · obtain rfl : i = 4 := Nat.le_antisymm hi (ix_ge (b := 4) (by omega) (by decide) c34)
        refine W.widen (k := 7) (n := 60) (by omega) (by omega) ?_
        refine lv_iconst (v := 0) hx hb dX4_init_56 (by decide) ?_
        refine lv_istore_n (lv' := [(1, .int 0), (0, .ref a)]) hx hb dX4_init_57 rfl hl (by decide) rfl (fun ls hl => ?_)
        have lp58 : ∀ (nn i : Nat), i ≤ 8 → 8 < i + nn → ∀ (L : Nat → Nat) (M1 : HM) (H : Heap) (locs : List Loc) (ls : Array Slot), Wd G (dm M s.heap.size) s.heap M1 H locs → Bld G M M1 L (8 + i) → L 0 = a → lv_has ls 2 [(1, .int (nI i)), (0, .ref a)] → W p l e (rd 2 31 172) s m args below meth c H locs (7 + i) (60 + 4 * i) (MQ below (QV G M s.heap.size (fun M' => ∃ L : Nat → Nat, L 0 = a ∧ NewSt G M M' L)) args s 31 172 (dm M s.heap.size)) (F0 m 58 ls []) := by
          intro nn
          induction nn with
          | zero =>
            intro i h1 h2
            exact absurd h2 (by omega)
          | succ nn ih =>
            intro i hi hin L M1 H locs ls hw hB hLa hl
            have h0 := hB.2.2.2.1
            rw [hLa] at h0
            refine lv_iload_n hx hb dX4_init_58 rfl (lv_at hl 0 rfl) ?_
            refine lv_bipush (v := 8) hx hb dX4_init_59 (by decide) ?_
            refine lv_icmp_ge (tgt := 83) hx hb dX4_init_61 (by decide) (fun c61 => ?_) (fun c61 => ?_)
            · obtain rfl : i = 8 := Nat.le_antisymm hi (ix_ge (b := 8) (by omega) (by decide) c61)
              refine W.widen (k := 15) (n := 92) (by omega) (by omega) ?_
              refine lv_iconst (v := 0) hx hb dX4_init_83 (by decide) ?_
              refine lv_istore_n (lv' := [(1, .int 0), (0, .ref a)]) hx hb dX4_init_84 rfl hl (by decide) rfl (fun ls hl => ?_)
              have lp85 : ∀ (nn i : Nat), i ≤ 16 → 16 < i + nn → ∀ (L : Nat → Nat) (M1 : HM) (H : Heap) (locs : List Loc) (ls : Array Slot), Wd G (dm M s.heap.size) s.heap M1 H locs → Bld G M M1 L (16 + i) → L 0 = a → lv_has ls 2 [(1, .int (nI i)), (0, .ref a)] → W p l e (rd 2 31 172) s m args below meth c H locs (15 + i) (92 + 5 * i) (MQ below (QV G M s.heap.size (fun M' => ∃ L : Nat → Nat, L 0 = a ∧ NewSt G M M' L)) args s 31 172 (dm M s.heap.size)) (F0 m 85 ls []) := by
                intro nn
                induction nn with
                | zero =>
                  intro i h1 h2
                  exact absurd h2 (by omega)
                | succ nn ih =>
                  intro i hi hin L M1 H locs ls hw hB hLa hl
                  have h0 := hB.2.2.2.1
                  rw [hLa] at h0
                  refine lv_iload_n hx hb dX4_init_85 rfl (lv_at hl 0 rfl) ?_
                  refine lv_bipush (v := 16) hx hb dX4_init_86 (by decide) ?_
                  refine lv_icmp_ge (tgt := 110) hx hb dX4_init_88 (by decide) (fun c88 => ?_) (fun c88 => ?_)
                  · obtain rfl : i = 16 := Nat.le_antisymm hi (ix_ge (b := 16) (by omega) (by decide) c88)
                    refine W.widen (k := 31) (n := 172) (by omega) (by omega) ?_
                    refine lv_aload_n hx hb dX4_init_110 rfl (lv_at hl 1 rfl) ?_
                    refine lv_iconst (v := 4) hx hb dX4_init_111 (by decide) ?_
                    refine lv_bipush (v := 8) hx hb dX4_init_112 (by decide) ?_
                    have hc := c_X4_reset l G hB.s0 hB.2.2.2.1 4 8
                    rw [hLa] at hc
                    refine r_Vv cX hw h0 rfl [.int 4, .int 8] (hc) wM_X4_32 mw_X4_reset ⟨Nat.le_of_ble_eq_true rfl, Nat.le_of_ble_eq_true rfl⟩ rfl rfl hl.1 (Nat.le_of_ble_eq_true rfl) dX4_init_114 ⟨by show 31 + 0 ≤ 31; omega, by show 172 + 0 ≤ 172; omega⟩ (fun M1 H locs hp hw => ?_)
                    have hN := hB.end hp
                    refine W.widen (k := 31) (n := 172) (by show 31 + 0 ≤ 31; omega) (by show 172 + 0 ≤ 172; omega) ?_
                    exact r_vret cX hr hlocks hw ⟨L, hLa, hN⟩ dX4_init_117
                  · have hlt : i < 16 := ix_lt (by omega) c88
                    obtain ⟨g, hg, hgi⟩ := hB.2.2.2.2.2.2.1
                    refine lv_aload_n hx hb dX4_init_91 rfl (lv_at hl 1 rfl) ?_
                    refine r_get cX inX4 hw h0 rfl 11 (by decide) wF_X4_25 rfl dX4_init_92 ?_
                    refine lv_iload_n hx hb dX4_init_95 rfl (lv_at hl 0 rfl) ?_
                    refine r_new (ci := 1) (fs := [.int 0, .int 0, .int 0, .int 0, .int 0]) cX inX1 tyX1 tyX1_ok wL_X4_23 wB_X1 wN_X1 hw rfl dfX1 (by show 15 + i + 1 ≤ 31; omega) (by show 92 + 5 * i + 5 ≤ 172; omega) dX4_init_96 (fun q H hq hw => ?_)
                    obtain ⟨N1, eN1⟩ : ∃ X : HM, X = mu M1 q (.inr (1, [.int 0, .int 0, .int 0, .int 0, .int 0])) := ⟨_, rfl⟩
                    have hw := hw.to eN1.symm
                    refine W.widen (k := 16 + i) (n := 97 + 5 * i) (by show 15 + i + 1 ≤ 16 + i; omega) (by show 92 + 5 * i + 5 ≤ 97 + 5 * i; omega) ?_
                    refine lv_dup hx hb dX4_init_99 rfl ?_
                    refine r_INv cX hw [] (c_X1_init l G) wM_X4_31 mw_X1_init ⟨Nat.le_of_ble_eq_true rfl, Nat.le_of_ble_eq_true rfl⟩ rfl rfl hl.1 (Nat.le_of_ble_eq_true rfl) dX4_init_100 ⟨by show 16 + i + 0 ≤ 31; omega, by show 97 + 5 * i + 0 ≤ 172; omega⟩ (fun M1 H locs hp hw => ?_)
                    rw [hp] at hw
                    refine W.widen (k := 16 + i) (n := 97 + 5 * i) (by show 16 + i + 0 ≤ 16 + i; omega) (by show 97 + 5 * i + 0 ≤ 97 + 5 * i; omega) ?_
                    refine r_aast (r := (RX1, TX1, 5)) cX hw 3 1 rfl (at_old eN1 (ne_some hq hg) hg) (at_new eN1) rfl i rfl hlt (by decide) dX4_init_103 (fun H locs hw => ?_)
                    obtain ⟨N2, eN2⟩ : ∃ X : HM, X = mu N1 (L 3) (.inl (G.2 3, 16, .inr (.inr (.inr (.inr (va_up g i (some q))))))) := ⟨_, rfl⟩
                    have hw := hw.to eN2.symm
                    have hB := hB.fl hlt hq hgi eN1 eN2
                    refine lv_iinc (v := (nI (i + 1))) (lv' := [(1, .int (nI (i + 1))), (0, .ref a)]) hx hb dX4_init_104 hl (k := 0) rfl (nI_1 i) (by decide) rfl (fun ls hl => ?_)
                    refine lv_goto (tgt := 85) hx hb dX4_init_107 (by decide) ?_
                    refine W.widen (k := 15 + (i + 1)) (n := 92 + 5 * (i + 1)) (by omega) (by omega) ?_
                    exact ih (i + 1) (by omega) (by omega) _ _ _ _ _ hw hB (by rw [Lx_ne _ _ (by omega)]; exact hLa) (lv_sub hl [0, 1] rfl)
              refine W.widen (k := 15 + 0) (n := 92 + 5 * 0) (by omega) (by omega) ?_
              exact lp85 (16 + 1) 0 (by omega) (by omega) L _ _ _ _ hw hB hLa (lv_sub hl [0, 1] rfl)
            · have hlt : i < 8 := ix_lt (by omega) c61
              obtain ⟨g, hg, hgi⟩ := hB.2.2.2.2.2.1
              refine lv_aload_n hx hb dX4_init_64 rfl (lv_at hl 1 rfl) ?_
              refine r_get cX inX4 hw h0 rfl 10 (by decide) wF_X4_19 rfl dX4_init_65 ?_
              refine lv_iload_n hx hb dX4_init_68 rfl (lv_at hl 0 rfl) ?_
              refine r_new (ci := 0) (fs := [.int 0, .int 0, .int 0, .int 0]) cX inX0 tyX0 tyX0_ok wL_X4_17 wB_X0 wN_X0 hw rfl dfX0 (by show 7 + i + 1 ≤ 31; omega) (by show 60 + 4 * i + 4 ≤ 172; omega) dX4_init_69 (fun q H hq hw => ?_)
              obtain ⟨N1, eN1⟩ : ∃ X : HM, X = mu M1 q (.inr (0, [.int 0, .int 0, .int 0, .int 0])) := ⟨_, rfl⟩
              have hw := hw.to eN1.symm
              refine W.widen (k := 8 + i) (n := 64 + 4 * i) (by show 7 + i + 1 ≤ 8 + i; omega) (by show 60 + 4 * i + 4 ≤ 64 + 4 * i; omega) ?_
              refine lv_dup hx hb dX4_init_72 rfl ?_
              refine r_INv cX hw [] (c_X0_init l G) wM_X4_30 mw_X0_init ⟨Nat.le_of_ble_eq_true rfl, Nat.le_of_ble_eq_true rfl⟩ rfl rfl hl.1 (Nat.le_of_ble_eq_true rfl) dX4_init_73 ⟨by show 8 + i + 0 ≤ 31; omega, by show 64 + 4 * i + 0 ≤ 172; omega⟩ (fun M1 H locs hp hw => ?_)
              rw [hp] at hw
              refine W.widen (k := 8 + i) (n := 64 + 4 * i) (by show 8 + i + 0 ≤ 8 + i; omega) (by show 64 + 4 * i + 0 ≤ 64 + 4 * i; omega) ?_
              refine r_aast (r := (RX0, TX0, 4)) cX hw 2 0 rfl (at_old eN1 (ne_some hq hg) hg) (at_new eN1) rfl i rfl hlt (by decide) dX4_init_76 (fun H locs hw => ?_)
              obtain ⟨N2, eN2⟩ : ∃ X : HM, X = mu N1 (L 2) (.inl (G.2 2, 8, .inr (.inr (.inr (.inr (va_up g i (some q))))))) := ⟨_, rfl⟩
              have hw := hw.to eN2.symm
              have hB := hB.en hlt hq hgi eN1 eN2
              refine lv_iinc (v := (nI (i + 1))) (lv' := [(1, .int (nI (i + 1))), (0, .ref a)]) hx hb dX4_init_77 hl (k := 0) rfl (nI_1 i) (by decide) rfl (fun ls hl => ?_)
              refine lv_goto (tgt := 58) hx hb dX4_init_80 (by decide) ?_
              refine W.widen (k := 7 + (i + 1)) (n := 60 + 4 * (i + 1)) (by omega) (by omega) ?_
              exact ih (i + 1) (by omega) (by omega) _ _ _ _ _ hw hB (by rw [Lx_ne _ _ (by omega)]; exact hLa) (lv_sub hl [0, 1] rfl)
        refine W.widen (k := 7 + 0) (n := 60 + 4 * 0) (by omega) (by omega) ?_
        exact lp58 (8 + 1) 0 (by omega) (by omega) L _ _ _ _ hw hB hLa (lv_sub hl [0, 1] rfl)
      · have hlt : i < 4 := ix_lt (by omega) c34
        obtain ⟨g, hg, hgi⟩ := hB.2.2.2.2.1
        refine lv_aload_n hx hb dX4_init_37 rfl (lv_at hl 1 rfl) ?_
        refine r_get cX inX4 hw h0 rfl 9 (by decide) wF_X4_11 rfl dX4_init_38 ?_
        refine lv_iload_n hx hb dX4_init_41 rfl (lv_at hl 0 rfl) ?_
        refine r_new (ci := 2) (fs := [.int 0, .int 0, .int 0, .int 0, .int 0, .int 0, .int 0, .int 0]) cX inX2 tyX2 tyX2_ok wL_X4_9 wB_X2 wN_X2 hw rfl dfX2 (by show 3 + i + 1 ≤ 31; omega) (by show 28 + 8 * i + 8 ≤ 172; omega) dX4_init_42 (fun q H hq hw => ?_)
        obtain ⟨N1, eN1⟩ : ∃ X : HM, X = mu M1 q (.inr (2, [.int 0, .int 0, .int 0, .int 0, .int 0, .int 0, .int 0, .int 0])) := ⟨_, rfl⟩
        have hw := hw.to eN1.symm
        refine W.widen (k := 4 + i) (n := 36 + 8 * i) (by show 3 + i + 1 ≤ 4 + i; omega) (by show 28 + 8 * i + 8 ≤ 36 + 8 * i; omega) ?_
        refine lv_dup hx hb dX4_init_45 rfl ?_
        refine r_INv cX hw [] (c_X2_init l G) wM_X4_29 mw_X2_init ⟨Nat.le_of_ble_eq_true rfl, Nat.le_of_ble_eq_true rfl⟩ rfl rfl hl.1 (Nat.le_of_ble_eq_true rfl) dX4_init_46 ⟨by show 4 + i + 0 ≤ 31; omega, by show 36 + 8 * i + 0 ≤ 172; omega⟩ (fun M1 H locs hp hw => ?_)
        rw [hp] at hw
        refine W.widen (k := 4 + i) (n := 36 + 8 * i) (by show 4 + i + 0 ≤ 4 + i; omega) (by show 36 + 8 * i + 0 ≤ 36 + 8 * i; omega) ?_
        refine r_aast (r := (RX2, TX2, 8)) cX hw 4 2 rfl (at_old eN1 (ne_some hq hg) hg) (at_new eN1) rfl i rfl hlt (by decide) dX4_init_49 (fun H locs hw => ?_)
        obtain ⟨N2, eN2⟩ : ∃ X : HM, X = mu N1 (L 1) (.inl (G.2 4, 4, .inr (.inr (.inr (.inr (va_up g i (some q))))))) := ⟨_, rfl⟩
        have hw := hw.to eN2.symm
        have hB := hB.pa hlt hq hgi eN1 eN2
        refine lv_iinc (v := (nI (i + 1))) (lv' := [(1, .int (nI (i + 1))), (0, .ref a)]) hx hb dX4_init_50 hl (k := 0) rfl (nI_1 i) (by decide) rfl (fun ls hl => ?_)
        refine lv_goto (tgt := 32) hx hb dX4_init_53 (by decide) ?_
        refine W.widen (k := 3 + (i + 1)) (n := 28 + 8 * (i + 1)) (by omega) (by omega) ?_
        exact ih (i + 1) (by omega) (by omega) _ _ _ _ _ hw hB (by rw [Lx_ne _ _ (by omega)]; exact hLa) (lv_sub hl [0, 1] rfl)
  refine W.widen (k := 3 + 0) (n := 28 + 8 * 0) (by omega) (by omega) ?_
  exact lp32 (4 + 1) 0 (by omega) (by omega) L _ _ _ _ hw hB hLa (lv_sub hl [0, 1] rfl)

set_option maxHeartbeats 4000000 in
set_option maxRecDepth 100000 in
theorem c_X3_init (l : Launch) (G : gG) {M : HM} {a : Nat} (h0 : M a = some (.inr (3, [.null, .int 0, .int 0]))) : Cv l yX3_init cX3_init 2 (rd 3 257 1480) G [.ref a] M (fun M' => ∃ (r : Nat) (LL : Nat → Nat → Nat), M' a = some (.inr (3, [.ref r, .int 0, .int 0])) ∧ Sts G M M' r 8 8 LL ∧ M r = none ∧ Kp M M' a) := by
  refine Cv.of (by decide) (Nat.le_of_ble_eq_true rfl) ?_
  intro p e s m args below meth c ls cX hw hlocks hr hnm hl
  have hx := cX.1
  have hb := cX.2.1
  have hl : lv_has ls 2 [(0, .ref a)] := hl
  refine lv_aload_n hx hb dX3_init_0 rfl (lv_at hl 0 rfl) ?_
  refine W.objInit hx hb cX.2.2.2.1 (cX.2.2.2.2.ts _ wM_X3_3) (cX.2.2.2.2.ts _ wI_obj) (cX.2.2.2.2.ts _ wC_obj) rfl (by rw [cX.2.2.1]; exact hl.1) rfl dX3_init_1 (Nat.le_of_ble_eq_true rfl) (Nat.le_of_ble_eq_true rfl) ?_
  refine W.eq (g2 := F0 m 4 ls []) rfl ?_
  refine lv_aload_n hx hb dX3_init_4 rfl (lv_at hl 0 rfl) ?_
  refine lv_bipush (v := 8) hx hb dX3_init_5 (by decide) ?_
  refine r_newq cX wL_X3_9 cX.2.2.2.2.2.2.1.2.2.2 5 rfl hw 8 (by decide) rfl (by decide) (by show 0 + 1 ≤ 257; omega) (by show 0 + 8 ≤ 1480; omega) dX3_init_7 (fun r H hr1_ hw => ?_)
  obtain ⟨N1, eN1⟩ : ∃ X : HM, X = mu M r (.inl (G.2 5, 8, .inr (.inr (.inr (.inr (fun _ => none)))))) := ⟨_, rfl⟩
  have hw := hw.to eN1.symm
  refine W.widen (k := 1) (n := 8) (by show 0 + 1 ≤ 1; omega) (by show 0 + 8 ≤ 8; omega) ?_
  have hr0 := hr1_
  have ha0 := h0
  have n1 := ne_some hr1_ h0
  have h0 := at_old eN1 n1 h0
  refine r_putF (fs' := [.ref r, .int 0, .int 0]) cX inX3 tyX3 tyX3_ok nmX3 hw h0 rfl 0 (by decide) wF_X3_11 rfl hnm rfl rfl rfl rfl (Nat.le_of_ble_eq_true rfl) dX3_init_10 (fun H locs hw => ?_)
  obtain ⟨N2, eN2⟩ : ∃ X : HM, X = mu N1 a (.inr (3, [.ref r, .int 0, .int 0])) := ⟨_, rfl⟩
  have hw := hw.to eN2.symm
  have h0 := at_new eN2
  have hr1 := at_old eN2 n1.symm (at_new eN1)
  have hK := ((Kp.rf M a).nw hr1_ eN1).pt eN2
  refine lv_iconst (v := 0) hx hb dX3_init_13 (by decide) ?_
  refine lv_istore_n (lv' := [(1, .int 0), (0, .ref a)]) hx hb dX3_init_14 rfl hl (by decide) rfl (fun ls hl => ?_)
  have lp15 : ∀ (nn i : Nat), i ≤ 8 → 8 < i + nn → ∀ (LL : Nat → Nat → Nat) (M1 : HM) (H : Heap) (locs : List Loc) (ls : Array Slot), Wd G (dm M s.heap.size) s.heap M1 H locs → Sts G M M1 r 8 i LL → Kp M M1 a → M1 a = some (.inr (3, [.ref r, .int 0, .int 0])) → lv_has ls 2 [(1, .int (nI i)), (0, .ref a)] → W p l e (rd 3 257 1480) s m args below meth c H locs (1 + 32 * i) (8 + 184 * i) (MQ below (QV G M s.heap.size (fun M' => ∃ (r : Nat) (LL : Nat → Nat → Nat), M' a = some (.inr (3, [.ref r, .int 0, .int 0])) ∧ Sts G M M' r 8 8 LL ∧ M r = none ∧ Kp M M' a)) args s 257 1480 (dm M s.heap.size)) (F0 m 15 ls []) := by
    intro nn
    induction nn with
    | zero =>
      intro i h1 h2
      exact absurd h2 (by omega)
    | succ nn ih =>
      intro i hi hin LL M1 H locs ls hw hS hK h0 hl
      refine lv_iload_n hx hb dX3_init_15 rfl (lv_at hl 0 rfl) ?_
      refine lv_bipush (v := 8) hx hb dX3_init_16 (by decide) ?_
      refine lv_icmp_ge (tgt := 40) hx hb dX3_init_18 (by decide) (fun c18 => ?_) (fun c18 => ?_)
      · obtain rfl : i = 8 := Nat.le_antisymm hi (ix_ge (b := 8) (by omega) (by decide) c18)
        refine W.widen (k := 257) (n := 1480) (by omega) (by omega) ?_
        exact r_vret cX hr hlocks hw ⟨r, LL, h0, hS, hr0, hK⟩ dX3_init_40
      · have hlt : i < 8 := ix_lt (by omega) c18
        obtain ⟨g, hg, hgi⟩ := hS.1
        refine lv_aload_n hx hb dX3_init_21 rfl (lv_at hl 1 rfl) ?_
        refine r_get cX inX3 hw h0 rfl 0 (by decide) wF_X3_11 rfl dX3_init_22 ?_
        refine lv_iload_n hx hb dX3_init_25 rfl (lv_at hl 0 rfl) ?_
        refine r_new (ci := 4) (fs := [.int 0, .int 0, .int 0, .int 0, .int 0, .int 0, .int 0, .int 0, .int 0, .null, .null, .null]) cX inX4 tyX4 tyX4_ok wL_X3_9 wB_X4 wN_X4 hw rfl dfX4 (by show 1 + 32 * i + 1 ≤ 257; omega) (by show 8 + 184 * i + 12 ≤ 1480; omega) dX3_init_26 (fun q H hq hw => ?_)
        obtain ⟨N21, eN21⟩ : ∃ X : HM, X = mu M1 q (.inr (4, [.int 0, .int 0, .int 0, .int 0, .int 0, .int 0, .int 0, .int 0, .int 0, .null, .null, .null])) := ⟨_, rfl⟩
        have hw := hw.to eN21.symm
        refine W.widen (k := 2 + 32 * i) (n := 20 + 184 * i) (by show 1 + 32 * i + 1 ≤ 2 + 32 * i; omega) (by show 8 + 184 * i + 12 ≤ 20 + 184 * i; omega) ?_
        refine lv_dup hx hb dX3_init_29 rfl ?_
        refine r_Iv cX hw [] (c_X4_init l G (at_new eN21)) wM_X3_17 mw_X4_init ⟨Nat.le_of_ble_eq_true rfl, Nat.le_of_ble_eq_true rfl⟩ rfl rfl hl.1 (Nat.le_of_ble_eq_true rfl) dX3_init_30 ⟨by show 2 + 32 * i + 31 ≤ 257; omega, by show 20 + 184 * i + 172 ≤ 1480; omega⟩ (fun M1 H locs hp hw => ?_)
        obtain ⟨L, hL, hN⟩ := hp
        obtain ⟨Nx, eNx⟩ : ∃ X : HM, X = M1 := ⟨_, rfl⟩
        rw [← eNx] at hw hN
        clear eNx
        refine W.widen (k := 33 + 32 * i) (n := 192 + 184 * i) (by show 2 + 32 * i + 31 ≤ 33 + 32 * i; omega) (by show 20 + 184 * i + 172 ≤ 192 + 184 * i; omega) ?_
        refine r_aast (r := (RX4, TX4, 12)) cX hw 5 4 rfl (hN.2.2 _ _ (by rw [hL]; exact ne_some hq hg) (at_old eN21 (ne_some hq hg) hg)) (by rw [← hL]; exact hN.1.1) rfl i rfl hlt (by decide) dX3_init_33 (fun H locs hw => ?_)
        obtain ⟨N22, eN22⟩ : ∃ X : HM, X = mu Nx r (.inl (G.2 5, 8, .inr (.inr (.inr (.inr (va_up g i (some q))))))) := ⟨_, rfl⟩
        have hw := hw.to eN22.symm
        obtain ⟨hS, hK2⟩ := hS.push hK h0 hg hr0 hq eN21 hN hL hgi eN22
        have h0 := at_old eN22 (ne_some hr0 ha0) (hN.2.2 _ _ (by rw [hL]; exact ne_some hq h0) (at_old eN21 (ne_some hq h0) h0))
        refine lv_iinc (v := (nI (i + 1))) (lv' := [(1, .int (nI (i + 1))), (0, .ref a)]) hx hb dX3_init_34 hl (k := 0) rfl (nI_1 i) (by decide) rfl (fun ls hl => ?_)
        refine lv_goto (tgt := 15) hx hb dX3_init_37 (by decide) ?_
        refine W.widen (k := 1 + 32 * (i + 1)) (n := 8 + 184 * (i + 1)) (by omega) (by omega) ?_
        exact ih (i + 1) (by omega) (by omega) _ _ _ _ _ hw hS hK2 h0 (lv_sub hl [0, 1] rfl)
  refine W.widen (k := 1 + 32 * 0) (n := 8 + 184 * 0) (by omega) (by omega) ?_
  exact lp15 (8 + 1) 0 (by omega) (by omega) (fun _ _ => 0) _ _ _ _ hw (Sts.zero _ hr1) hK h0 (lv_sub hl [0, 1] rfl)

set_option maxHeartbeats 4000000 in
set_option maxRecDepth 100000 in
theorem c_X6_init (l : Launch) (G : gG) {M : HM} {a : Nat} (h0 : M a = some (.inr (6, [.null, .null, .null, .null, .null]))) : Cv l yX6_init cX6_init 2 (rd 4 358 2165) G [.ref a] M (fun M' => ∃ (ad : Nat → Nat) (tr : Nat → Int32), ad 0 = a ∧ IsCl G M' ad (fun _ => iniF 4 8) 0 0 (fun _ => 0) (fun _ => 0) 0 tr ∧ Kp M M' a) := by
  refine Cv.of (by decide) (Nat.le_of_ble_eq_true rfl) ?_
  intro p e s m args below meth c ls cX hw hlocks hr hnm hl
  have hx := cX.1
  have hb := cX.2.1
  have hl : lv_has ls 2 [(0, .ref a)] := hl
  refine lv_aload_n hx hb dX6_init_0 rfl (lv_at hl 0 rfl) ?_
  refine W.objInit hx hb cX.2.2.2.1 (cX.2.2.2.2.ts _ wM_X6_1) (cX.2.2.2.2.ts _ wI_obj) (cX.2.2.2.2.ts _ wC_obj) rfl (by rw [cX.2.2.1]; exact hl.1) rfl dX6_init_1 (Nat.le_of_ble_eq_true rfl) (Nat.le_of_ble_eq_true rfl) ?_
  refine W.eq (g2 := F0 m 4 ls []) rfl ?_
  refine lv_aload_n hx hb dX6_init_4 rfl (lv_at hl 0 rfl) ?_
  refine r_new (ci := 4) (fs := [.int 0, .int 0, .int 0, .int 0, .int 0, .int 0, .int 0, .int 0, .int 0, .null, .null, .null]) cX inX4 tyX4 tyX4_ok wL_X6_7 wB_X4 wN_X4 hw rfl dfX4 (by show 0 + 1 ≤ 358; omega) (by show 0 + 12 ≤ 2165; omega) dX6_init_5 (fun q0 H hq0 hw => ?_)
  obtain ⟨N1, eN1⟩ : ∃ X : HM, X = mu M q0 (.inr (4, [.int 0, .int 0, .int 0, .int 0, .int 0, .int 0, .int 0, .int 0, .int 0, .null, .null, .null])) := ⟨_, rfl⟩
  have hw := hw.to eN1.symm
  refine W.widen (k := 1) (n := 12) (by show 0 + 1 ≤ 1; omega) (by show 0 + 12 ≤ 12; omega) ?_
  have ha0 := h0
  have h0 := at_old eN1 (ne_some hq0 h0) h0
  refine lv_dup hx hb dX6_init_8 rfl ?_
  refine r_Iv cX hw [] (c_X4_init l G (at_new eN1)) wM_X6_9 mw_X4_init ⟨Nat.le_of_ble_eq_true rfl, Nat.le_of_ble_eq_true rfl⟩ rfl rfl hl.1 (Nat.le_of_ble_eq_true rfl) dX6_init_9 ⟨by show 1 + 31 ≤ 358; omega, by show 12 + 172 ≤ 2165; omega⟩ (fun M1 H locs hp hw => ?_)
  obtain ⟨L0, hL0, hN0⟩ := hp
  obtain ⟨N2, eN2⟩ : ∃ X : HM, X = M1 := ⟨_, rfl⟩
  rw [← eN2] at hw hN0
  clear eN2
  refine W.widen (k := 32) (n := 184) (by show 1 + 31 ≤ 32; omega) (by show 12 + 172 ≤ 184; omega) ?_
  have k02 : Kp M N2 a := (Kp.rf M a).ct hq0 eN1 (hL0 ▸ hN0.2.2)
  have h0 : N2 a = some _ := hN0.2.2 _ _ (by rw [hL0]; exact ne_some hq0 ha0) h0
  have f0 : ∀ k, k < 32 → M (L0 k) = none := fun k hk => by
    by_cases c : k = 0
    · rw [c, hL0]
      exact hq0
    · exact (at_none eN1 (hN0.2.1 k (by omega) hk)).1
  have n0 : ∀ k, k < 32 → L0 k ≠ a := fun k hk => (ne_some (f0 k hk) ha0).symm
  refine r_putF (fs' := [.ref q0, .null, .null, .null, .null]) cX inX6 tyX6 tyX6_ok nmX6 hw h0 rfl 0 (by decide) wF_X6_10 rfl hnm rfl rfl rfl rfl (Nat.le_of_ble_eq_true rfl) dX6_init_12 (fun H locs hw => ?_)
  obtain ⟨N3, eN3⟩ : ∃ X : HM, X = mu N2 a (.inr (6, [.ref q0, .null, .null, .null, .null])) := ⟨_, rfl⟩
  have hw := hw.to eN3.symm
  have h0 := at_new eN3
  have k23 := (Kp.rf N2 a).pt eN3
  have k03 := k02.trans k23
  have s3 := hN0.1.kp k23 n0
  refine lv_aload_n hx hb dX6_init_15 rfl (lv_at hl 0 rfl) ?_
  refine r_new (ci := 3) (fs := [.null, .int 0, .int 0]) cX inX3 tyX3 tyX3_ok wL_X6_16 wB_X3 wN_X3 hw rfl dfX3 (by show 32 + 1 ≤ 358; omega) (by show 184 + 3 ≤ 2165; omega) dX6_init_16 (fun q1 H hq1 hw => ?_)
  obtain ⟨N4, eN4⟩ : ∃ X : HM, X = mu N3 q1 (.inr (3, [.null, .int 0, .int 0])) := ⟨_, rfl⟩
  have hw := hw.to eN4.symm
  refine W.widen (k := 33) (n := 187) (by show 32 + 1 ≤ 33; omega) (by show 184 + 3 ≤ 187; omega) ?_
  have h3 := h0
  have h0 := at_old eN4 (ne_some hq1 h0) h0
  refine lv_dup hx hb dX6_init_19 rfl ?_
  refine r_Iv cX hw [] (c_X3_init l G (at_new eN4)) wM_X6_18 mw_X3_init ⟨Nat.le_of_ble_eq_true rfl, Nat.le_of_ble_eq_true rfl⟩ rfl rfl hl.1 (Nat.le_of_ble_eq_true rfl) dX6_init_20 ⟨by show 33 + 257 ≤ 358; omega, by show 187 + 1480 ≤ 2165; omega⟩ (fun M1 H locs hp hw => ?_)
  obtain ⟨r, LR, hq5, hS5, hr4, hk5⟩ := hp
  obtain ⟨N5, eN5⟩ : ∃ X : HM, X = M1 := ⟨_, rfl⟩
  rw [← eN5] at hw hq5 hS5 hk5
  clear eN5
  refine W.widen (k := 290) (n := 1667) (by show 33 + 257 ≤ 290; omega) (by show 187 + 1480 ≤ 1667; omega) ?_
  have k35 : Kp N3 N5 a := (Kp.rf N3 a).ct hq1 eN4 hk5
  have h0 : N5 a = some _ := hk5 _ _ (ne_some hq1 h3) h0
  obtain ⟨hr3_, nrq⟩ := at_none eN4 hr4
  have fR : ∀ i k, i < 8 → k < 32 → N3 (LR i k) = none ∧ LR i k ≠ q1 := fun i k hi hk => at_none eN4 (hS5.2.2.1 i k hi hk).1
  have nq1a := (ne_some hq1 h3).symm
  have nra := (ne_some hr3_ h3).symm
  have nRa : ∀ i k, i < 8 → k < 32 → LR i k ≠ a := fun i k hi hk => (ne_some (fR i k hi hk).1 h3).symm
  have m0q1 := s3.ne hq1
  have m0r := s3.ne hr3_
  have m0R : ∀ i k, i < 8 → k < 32 → ∀ j, j < 32 → L0 j ≠ LR i k := fun i k hi hk => s3.ne (fR i k hi hk).1
  refine r_putF (fs' := [.ref q0, .ref q1, .null, .null, .null]) cX inX6 tyX6 tyX6_ok nmX6 hw h0 rfl 1 (by decide) wF_X6_19 rfl hnm rfl rfl rfl rfl (Nat.le_of_ble_eq_true rfl) dX6_init_23 (fun H locs hw => ?_)
  obtain ⟨N6, eN6⟩ : ∃ X : HM, X = mu N5 a (.inr (6, [.ref q0, .ref q1, .null, .null, .null])) := ⟨_, rfl⟩
  have hw := hw.to eN6.symm
  have h0 := at_new eN6
  have k56 := (Kp.rf N5 a).pt eN6
  have k36 := k35.trans k56
  have k06 := k03.trans k36
  have s6 := s3.kp k36 n0
  have q6 := k56 _ _ nq1a hq5
  have S6 := hS5.kp k56 nra nRa
  refine lv_aload_n hx hb dX6_init_26 rfl (lv_at hl 0 rfl) ?_
  refine lv_iconst (v := 2) hx hb dX6_init_27 (by decide) ?_
  refine r_newq cX wL_X6_7 cX.2.2.2.2.2.2.1.2.2.2 5 rfl hw 2 (by decide) rfl (by decide) (by show 290 + 1 ≤ 358; omega) (by show 1667 + 2 ≤ 2165; omega) dX6_init_28 (fun r3 H hr3 hw => ?_)
  obtain ⟨N7, eN7⟩ : ∃ X : HM, X = mu N6 r3 (.inl (G.2 5, 2, .inr (.inr (.inr (.inr (fun _ => none)))))) := ⟨_, rfl⟩
  have hw := hw.to eN7.symm
  refine W.widen (k := 291) (n := 1669) (by show 290 + 1 ≤ 291; omega) (by show 1667 + 2 ≤ 1669; omega) ?_
  have ha6 := h0
  have n3a := ne_some hr3 h0
  have h0 := at_old eN7 n3a h0
  refine r_putF (fs' := [.ref q0, .ref q1, .ref r3, .null, .null]) cX inX6 tyX6 tyX6_ok nmX6 hw h0 rfl 2 (by decide) wF_X6_23 rfl hnm rfl rfl rfl rfl (Nat.le_of_ble_eq_true rfl) dX6_init_31 (fun H locs hw => ?_)
  obtain ⟨N8, eN8⟩ : ∃ X : HM, X = mu N7 a (.inr (6, [.ref q0, .ref q1, .ref r3, .null, .null])) := ⟨_, rfl⟩
  have hw := hw.to eN8.symm
  have h0 := at_new eN8
  have hr1 := at_old eN8 n3a.symm (at_new eN7)
  have hK := ((Kp.rf N6 a).nw hr3 eN7).pt eN8
  have hr30 := hr3
  have ha0_ := ha0
  have ha0 := ha6
  have m03 := s6.ne hr3
  have mq13 := ne_some hr3 q6
  obtain ⟨gr, hgr, hgr_⟩ := S6.1
  have mr3 := ne_some hr3 hgr
  have mR3 := S6.ne hr3
  refine lv_iconst (v := 0) hx hb dX6_init_34 (by decide) ?_
  refine lv_istore_n (lv' := [(1, .int 0), (0, .ref a)]) hx hb dX6_init_35 rfl hl (by decide) rfl (fun ls hl => ?_)
  have lp36 : ∀ (nn i : Nat), i ≤ 2 → 2 < i + nn → ∀ (LL : Nat → Nat → Nat) (M1 : HM) (H : Heap) (locs : List Loc) (ls : Array Slot), Wd G (dm M s.heap.size) s.heap M1 H locs → Sts G N6 M1 r3 2 i LL → Kp N6 M1 a → M1 a = some (.inr (6, [.ref q0, .ref q1, .ref r3, .null, .null])) → lv_has ls 2 [(1, .int (nI i)), (0, .ref a)] → W p l e (rd 4 358 2165) s m args below meth c H locs (291 + 32 * i) (1669 + 184 * i) (MQ below (QV G M s.heap.size (fun M' => ∃ (ad : Nat → Nat) (tr : Nat → Int32), ad 0 = a ∧ IsCl G M' ad (fun _ => iniF 4 8) 0 0 (fun _ => 0) (fun _ => 0) 0 tr ∧ Kp M M' a)) args s 358 2165 (dm M s.heap.size)) (F0 m 36 ls []) := by
    intro nn
    induction nn with
    | zero =>
      intro i h1 h2
      exact absurd h2 (by omega)
    | succ nn ih =>
      intro i hi hin LL M1 H locs ls hw hS hK h0 hl
      refine lv_iload_n hx hb dX6_init_36 rfl (lv_at hl 0 rfl) ?_
      refine lv_iconst (v := 2) hx hb dX6_init_37 (by decide) ?_
      refine lv_icmp_ge (tgt := 60) hx hb dX6_init_38 (by decide) (fun c38 => ?_) (fun c38 => ?_)
      · obtain rfl : i = 2 := Nat.le_antisymm hi (ix_ge (b := 2) (by omega) (by decide) c38)
        refine W.widen (k := 355) (n := 2037) (by omega) (by omega) ?_
        have k09 := k06.trans hK
        have s9 := s6.kp hK n0
        have q9 := hK _ _ nq1a q6
        have S9 := S6.kp hK nra nRa
        have hgr9 := hK _ _ nra hgr
        obtain ⟨g3, hg3, hg3_⟩ := hS.1
        have fS : ∀ i k, i < 2 → k < 32 → N6 (LL i k) = none := fun i k hi hk => (hS.2.2.1 i k hi hk).1
        have nSa : ∀ i k, i < 2 → k < 32 → LL i k ≠ a := fun i k hi hk => (ne_some (fS i k hi hk) ha6).symm
        have m0S : ∀ i k, i < 2 → k < 32 → ∀ j, j < 32 → L0 j ≠ LL i k := fun i k hi hk => s6.ne (fS i k hi hk)
        have mq1S : ∀ i k, i < 2 → k < 32 → q1 ≠ LL i k := fun i k hi hk => ne_some (fS i k hi hk) q6
        have mrS : ∀ i k, i < 2 → k < 32 → r ≠ LL i k := fun i k hi hk => ne_some (fS i k hi hk) hgr
        have mRS : ∀ i k, i < 2 → k < 32 → ∀ i2 k2, i2 < 8 → k2 < 32 → LR i2 k2 ≠ LL i k := fun i k hi hk => S6.ne (fS i k hi hk)
        refine lv_aload_n hx hb dX6_init_60 rfl (lv_at hl 1 rfl) ?_
        refine lv_iconst (v := 2) hx hb dX6_init_61 (by decide) ?_
        refine r_newa (atype := .boolean) (ty := .boolean) cX cX.2.2.2.2.2.2.2.2 rfl 1 rfl (fun C h => by cases h) rfl hw 2 (by decide) rfl (by decide) (by show 355 + 1 ≤ 358; omega) (by show 2037 + 2 ≤ 2165; omega) dX6_init_62 (fun fb H hfb hw => ?_)
        obtain ⟨N30, eN30⟩ : ∃ X : HM, X = mu M1 fb (.inl (G.2 1, 2, .inl (fun _ => 0))) := ⟨_, rfl⟩
        have hw := hw.to eN30.symm
        refine W.widen (k := 356) (n := 2039) (by show 355 + 1 ≤ 356; omega) (by show 2037 + 2 ≤ 2039; omega) ?_
        have nfa := (ne_some hfb h0).symm
        have m0f := s9.ne hfb
        have mq1f := ne_some hfb q9
        have mrf := ne_some hfb hgr9
        have mRf := S9.ne hfb
        have m3f := ne_some hfb hg3
        have mSf := hS.ne hfb
        have k910 := (Kp.rf M1 a).nw hfb eN30
        have h0 := at_old eN30 nfa.symm h0
        refine r_putF (fs' := [.ref q0, .ref q1, .ref r3, .ref fb, .null]) cX inX6 tyX6 tyX6_ok nmX6 hw h0 rfl 3 (by decide) wF_X6_27 rfl hnm rfl rfl rfl rfl (Nat.le_of_ble_eq_true rfl) dX6_init_64 (fun H locs hw => ?_)
        obtain ⟨N31, eN31⟩ : ∃ X : HM, X = mu N30 a (.inr (6, [.ref q0, .ref q1, .ref r3, .ref fb, .null])) := ⟨_, rfl⟩
        have hw := hw.to eN31.symm
        have h0 := at_new eN31
        have k911 := k910.pt eN31
        have f11 := at_old eN31 nfa (at_new eN30)
        have s11 := s9.kp k911 n0
        have q11 := k911 _ _ nq1a q9
        have r11 := k911 _ _ nra hgr9
        have S11 := S9.kp k911 nra nRa
        have g11 := k911 _ _ n3a.symm hg3
        have T11 := hS.kp k911 n3a.symm nSa
        refine lv_aload_n hx hb dX6_init_67 rfl (lv_at hl 1 rfl) ?_
        refine r_new (ci := 5) (fs := [.null, .int 0, .int 0, .int 0, .int 0, .int 0]) cX inX5 tyX5 tyX5_ok wL_X6_31 wB_X5 wN_X5 hw rfl dfX5 (by show 356 + 1 ≤ 358; omega) (by show 2039 + 6 ≤ 2165; omega) dX6_init_68 (fun tq H htq hw => ?_)
        obtain ⟨N32, eN32⟩ : ∃ X : HM, X = mu N31 tq (.inr (5, [.null, .int 0, .int 0, .int 0, .int 0, .int 0])) := ⟨_, rfl⟩
        have hw := hw.to eN32.symm
        refine W.widen (k := 357) (n := 2045) (by show 356 + 1 ≤ 357; omega) (by show 2039 + 6 ≤ 2045; omega) ?_
        have h11 := h0
        have h0 := at_old eN32 (ne_some htq h0) h0
        refine lv_dup hx hb dX6_init_71 rfl ?_
        refine r_INv cX hw [] (c_X5_init l G (at_new eN32)) wM_X6_33 mw_X5_init ⟨Nat.le_of_ble_eq_true rfl, Nat.le_of_ble_eq_true rfl⟩ rfl rfl hl.1 (Nat.le_of_ble_eq_true rfl) dX6_init_72 ⟨by show 357 + 1 ≤ 358; omega, by show 2045 + 120 ≤ 2165; omega⟩ (fun M1 H locs hp hw => ?_)
        obtain ⟨cq, Nc, hcq, eNc, e33⟩ := hp
        obtain ⟨N33, eN33⟩ : ∃ X : HM, X = M1 := ⟨_, rfl⟩
        rw [← eN33] at hw e33
        clear eN33
        refine W.widen (k := 358) (n := 2165) (by show 357 + 1 ≤ 358; omega) (by show 2045 + 120 ≤ 2165; omega) ?_
        obtain ⟨hc11, nct⟩ := at_none eN32 hcq
        have nta := (ne_some htq h11).symm
        have m0t := s11.ne htq
        have mq1t := ne_some htq q11
        have mrt := ne_some htq r11
        have mRt := S11.ne htq
        have m3t := ne_some htq g11
        have mSt := T11.ne htq
        have mft := ne_some htq f11
        have nca := (ne_some hc11 h11).symm
        have m0c := s11.ne hc11
        have mq1c := ne_some hc11 q11
        have mrc := ne_some hc11 r11
        have mRc := S11.ne hc11
        have m3c := ne_some hc11 g11
        have mSc := T11.ne hc11
        have mfc := ne_some hc11 f11
        have k1133 : Kp N31 N33 a := (((Kp.rf N31 a).nw htq eN32).nw hcq eNc).ar htq e33
        have h0 := at_old e33 nta.symm (at_old eNc nca.symm h0)
        refine r_putF (fs' := [.ref q0, .ref q1, .ref r3, .ref fb, .ref tq]) cX inX6 tyX6 tyX6_ok nmX6 hw h0 rfl 4 (by decide) wF_X6_34 rfl hnm rfl rfl rfl rfl (Nat.le_of_ble_eq_true rfl) dX6_init_75 (fun H locs hw => ?_)
        obtain ⟨N34, eN34⟩ : ∃ X : HM, X = mu N33 a (.inr (6, [.ref q0, .ref q1, .ref r3, .ref fb, .ref tq])) := ⟨_, rfl⟩
        have hw := hw.to eN34.symm
        have h0 := at_new eN34
        have kE := k1133.pt eN34
        have tE := at_old eN34 nta (at_new e33)
        have cE := at_old eN34 nca (at_old e33 nct (at_new eNc))
        have hsp : ∀ i, i < 7 → i = 0 ∨ i = 1 ∨ i = 2 ∨ i = 3 ∨ i = 4 ∨ i = 5 ∨ i = 6 := fun i hi => by omega
        have hE := mkCl (a := a) (q1 := q1) (r := r) (r3 := r3) (fb := fb) (t := tq) (cq := cq) (L0 := L0) (LR := LR) (LS := LL) (by rw [← hL0] at h0; exact h0) (kE _ _ nq1a q11) (S11.kp kE nra nRa) (T11.kp kE n3a.symm nSa) (kE _ _ nfa f11) tE cE (s11.kp kE n0) ⟨nq1a, nra, n3a.symm, nfa, nta, nca⟩ ⟨nrq, mq13, mq1f, mq1t, mq1c⟩ ⟨mr3, mrf, mrt, mrc⟩ ⟨m3f, m3t, m3c⟩ ⟨mft, mfc, nct⟩ ⟨n0, m0q1, m0r, m03, m0f, m0t, m0c⟩ ⟨nRa, fun i k hi hk => (fR i k hi hk).2, mR3, mRf, mRt, mRc⟩ ⟨nSa, mq1S, mrS, mSf, mSt, mSc⟩ m0R m0S mRS
        exact r_vret cX hr hlocks hw ⟨_, _, rfl, hE, (k09.trans k911).trans kE⟩ dX6_init_78
      · have hlt : i < 2 := ix_lt (by omega) c38
        obtain ⟨g, hg, hgi⟩ := hS.1
        refine lv_aload_n hx hb dX6_init_41 rfl (lv_at hl 1 rfl) ?_
        refine r_get cX inX6 hw h0 rfl 2 (by decide) wF_X6_23 rfl dX6_init_42 ?_
        refine lv_iload_n hx hb dX6_init_45 rfl (lv_at hl 0 rfl) ?_
        refine r_new (ci := 4) (fs := [.int 0, .int 0, .int 0, .int 0, .int 0, .int 0, .int 0, .int 0, .int 0, .null, .null, .null]) cX inX4 tyX4 tyX4_ok wL_X6_7 wB_X4 wN_X4 hw rfl dfX4 (by show 291 + 32 * i + 1 ≤ 358; omega) (by show 1669 + 184 * i + 12 ≤ 2165; omega) dX6_init_46 (fun q H hq hw => ?_)
        obtain ⟨N21, eN21⟩ : ∃ X : HM, X = mu M1 q (.inr (4, [.int 0, .int 0, .int 0, .int 0, .int 0, .int 0, .int 0, .int 0, .int 0, .null, .null, .null])) := ⟨_, rfl⟩
        have hw := hw.to eN21.symm
        refine W.widen (k := 292 + 32 * i) (n := 1681 + 184 * i) (by show 291 + 32 * i + 1 ≤ 292 + 32 * i; omega) (by show 1669 + 184 * i + 12 ≤ 1681 + 184 * i; omega) ?_
        refine lv_dup hx hb dX6_init_49 rfl ?_
        refine r_Iv cX hw [] (c_X4_init l G (at_new eN21)) wM_X6_9 mw_X4_init ⟨Nat.le_of_ble_eq_true rfl, Nat.le_of_ble_eq_true rfl⟩ rfl rfl hl.1 (Nat.le_of_ble_eq_true rfl) dX6_init_50 ⟨by show 292 + 32 * i + 31 ≤ 358; omega, by show 1681 + 184 * i + 172 ≤ 2165; omega⟩ (fun M1 H locs hp hw => ?_)
        obtain ⟨L, hL, hN⟩ := hp
        obtain ⟨Nx, eNx⟩ : ∃ X : HM, X = M1 := ⟨_, rfl⟩
        rw [← eNx] at hw hN
        clear eNx
        refine W.widen (k := 323 + 32 * i) (n := 1853 + 184 * i) (by show 292 + 32 * i + 31 ≤ 323 + 32 * i; omega) (by show 1681 + 184 * i + 172 ≤ 1853 + 184 * i; omega) ?_
        refine r_aast (r := (RX4, TX4, 12)) cX hw 5 4 rfl (hN.2.2 _ _ (by rw [hL]; exact ne_some hq hg) (at_old eN21 (ne_some hq hg) hg)) (by rw [← hL]; exact hN.1.1) rfl i rfl hlt (by decide) dX6_init_53 (fun H locs hw => ?_)
        obtain ⟨N22, eN22⟩ : ∃ X : HM, X = mu Nx r3 (.inl (G.2 5, 2, .inr (.inr (.inr (.inr (va_up g i (some q))))))) := ⟨_, rfl⟩
        have hw := hw.to eN22.symm
        obtain ⟨hS, hK2⟩ := hS.push hK h0 hg hr30 hq eN21 hN hL hgi eN22
        have h0 := at_old eN22 (ne_some hr30 ha0) (hN.2.2 _ _ (by rw [hL]; exact ne_some hq h0) (at_old eN21 (ne_some hq h0) h0))
        refine lv_iinc (v := (nI (i + 1))) (lv' := [(1, .int (nI (i + 1))), (0, .ref a)]) hx hb dX6_init_54 hl (k := 0) rfl (nI_1 i) (by decide) rfl (fun ls hl => ?_)
        refine lv_goto (tgt := 36) hx hb dX6_init_57 (by decide) ?_
        refine W.widen (k := 291 + 32 * (i + 1)) (n := 1669 + 184 * (i + 1)) (by omega) (by omega) ?_
        exact ih (i + 1) (by omega) (by omega) _ _ _ _ _ hw hS hK2 h0 (lv_sub hl [0, 1] rfl)
  refine W.widen (k := 291 + 32 * 0) (n := 1669 + 184 * 0) (by omega) (by omega) ?_
  exact lp36 (2 + 1) 0 (by omega) (by omega) (fun _ _ => 0) _ _ _ _ hw (Sts.zero _ hr1) hK h0 (lv_sub hl [0, 1] rfl)

set_option maxHeartbeats 4000000 in
set_option maxRecDepth 100000 in
theorem c_X7_init (l : Launch) (G : gG) {M : HM} {a : Nat} (h0 : M a = some (.inr (7, [.null, .null, .int 0, .null, .null, .null, .int 0, .int 0, .int 0, .null, .null]))) : Cv l yX7_init cX7_init 1 (rd 1 7 1925) G [.ref a] M (fun M' => ∃ b : Nat → Nat, b 0 = a ∧ IsRf G M' b (iniF 4 8) (fun _ => 0) (fun _ => 0) (fun _ => 0) (fun _ => 0) (fun _ => 0) (fun _ => 0) 0 0 0 0 ∧ (∀ i, 1 ≤ i → i < 8 → M (b i) = none) ∧ Kp M M' a) := by
  refine Cv.of (by decide) (Nat.le_of_ble_eq_true rfl) ?_
  intro p e s m args below meth c ls cX hw hlocks hr hnm hl
  have hx := cX.1
  have hb := cX.2.1
  have hl : lv_has ls 1 [(0, .ref a)] := hl
  refine lv_aload_n hx hb dX7_init_0 rfl (lv_at hl 0 rfl) ?_
  refine W.objInit hx hb cX.2.2.2.1 (cX.2.2.2.2.ts _ wM_X7_1) (cX.2.2.2.2.ts _ wI_obj) (cX.2.2.2.2.ts _ wC_obj) rfl (by rw [cX.2.2.1]; exact hl.1) rfl dX7_init_1 (Nat.le_of_ble_eq_true rfl) (Nat.le_of_ble_eq_true rfl) ?_
  refine W.eq (g2 := F0 m 4 ls []) rfl ?_
  refine lv_aload_n hx hb dX7_init_4 rfl (lv_at hl 0 rfl) ?_
  refine lv_sipush (v := 153) hx hb dX7_init_5 (by decide) ?_
  refine r_newa (atype := .int) (ty := .int) cX cX.2.2.2.2.2.2.2.1 rfl 0 rfl (fun C h => by cases h) rfl hw 153 (by decide) rfl (by decide) (by show 0 + 1 ≤ 7; omega) (by show 0 + 153 ≤ 1925; omega) dX7_init_8 (fun b1 H hb1 hw => ?_)
  obtain ⟨N1, eN1⟩ : ∃ X : HM, X = mu M b1 (.inl (G.2 0, 153, .inl (fun _ => 0))) := ⟨_, rfl⟩
  have hw := hw.to eN1.symm
  refine W.widen (k := 1) (n := 153) (by show 0 + 1 ≤ 1; omega) (by show 0 + 153 ≤ 153; omega) ?_
  have k0 := Kp.rf M a
  have m0_1 := ne_some hb1 h0
  have f1 : M b1 = none := k0.fr h0 hb1
  have k1 := k0.nw hb1 eN1
  have h0 := at_old eN1 m0_1 h0
  have g1 := at_new eN1
  refine r_putF (fs' := [.ref b1, .null, .int 0, .null, .null, .null, .int 0, .int 0, .int 0, .null, .null]) cX inX7 tyX7 tyX7_ok nmX7 hw h0 rfl 0 (by decide) wF_X7_7 rfl hnm rfl rfl rfl rfl (Nat.le_of_ble_eq_true rfl) dX7_init_10 (fun H locs hw => ?_)
  obtain ⟨N2, eN2⟩ : ∃ X : HM, X = mu N1 a (.inr (7, [.ref b1, .null, .int 0, .null, .null, .null, .int 0, .int 0, .int 0, .null, .null])) := ⟨_, rfl⟩
  have hw := hw.to eN2.symm
  have k1 := k1.pt eN2
  have g1 := at_old eN2 m0_1.symm g1
  have h0 := at_new eN2
  refine lv_aload_n hx hb dX7_init_13 rfl (lv_at hl 0 rfl) ?_
  refine lv_sipush (v := 1224) hx hb dX7_init_14 (by decide) ?_
  refine r_newa (atype := .int) (ty := .int) cX cX.2.2.2.2.2.2.2.1 rfl 0 rfl (fun C h => by cases h) rfl hw 1224 (by decide) rfl (by decide) (by show 1 + 1 ≤ 7; omega) (by show 153 + 1224 ≤ 1925; omega) dX7_init_17 (fun b2 H hb2 hw => ?_)
  obtain ⟨N3, eN3⟩ : ∃ X : HM, X = mu N2 b2 (.inl (G.2 0, 1224, .inl (fun _ => 0))) := ⟨_, rfl⟩
  have hw := hw.to eN3.symm
  refine W.widen (k := 2) (n := 1377) (by show 1 + 1 ≤ 2; omega) (by show 153 + 1224 ≤ 1377; omega) ?_
  have m0_2 := ne_some hb2 h0
  have m1_2 := ne_some hb2 g1
  have f2 : M b2 = none := k1.fr h0 hb2
  have k2 := k1.nw hb2 eN3
  have h0 := at_old eN3 m0_2 h0
  have g1 := at_old eN3 m1_2 g1
  have g2 := at_new eN3
  refine r_putF (fs' := [.ref b1, .ref b2, .int 0, .null, .null, .null, .int 0, .int 0, .int 0, .null, .null]) cX inX7 tyX7 tyX7_ok nmX7 hw h0 rfl 1 (by decide) wF_X7_13 rfl hnm rfl rfl rfl rfl (Nat.le_of_ble_eq_true rfl) dX7_init_19 (fun H locs hw => ?_)
  obtain ⟨N4, eN4⟩ : ∃ X : HM, X = mu N3 a (.inr (7, [.ref b1, .ref b2, .int 0, .null, .null, .null, .int 0, .int 0, .int 0, .null, .null])) := ⟨_, rfl⟩
  have hw := hw.to eN4.symm
  have k2 := k2.pt eN4
  have g1 := at_old eN4 m0_1.symm g1
  have g2 := at_old eN4 m0_2.symm g2
  have h0 := at_new eN4
  refine lv_aload_n hx hb dX7_init_22 rfl (lv_at hl 0 rfl) ?_
  refine lv_sipush (v := 306) hx hb dX7_init_23 (by decide) ?_
  refine r_newa (atype := .int) (ty := .int) cX cX.2.2.2.2.2.2.2.1 rfl 0 rfl (fun C h => by cases h) rfl hw 306 (by decide) rfl (by decide) (by show 2 + 1 ≤ 7; omega) (by show 1377 + 306 ≤ 1925; omega) dX7_init_26 (fun b3 H hb3 hw => ?_)
  obtain ⟨N5, eN5⟩ : ∃ X : HM, X = mu N4 b3 (.inl (G.2 0, 306, .inl (fun _ => 0))) := ⟨_, rfl⟩
  have hw := hw.to eN5.symm
  refine W.widen (k := 3) (n := 1683) (by show 2 + 1 ≤ 3; omega) (by show 1377 + 306 ≤ 1683; omega) ?_
  have m0_3 := ne_some hb3 h0
  have m1_3 := ne_some hb3 g1
  have m2_3 := ne_some hb3 g2
  have f3 : M b3 = none := k2.fr h0 hb3
  have k3 := k2.nw hb3 eN5
  have h0 := at_old eN5 m0_3 h0
  have g1 := at_old eN5 m1_3 g1
  have g2 := at_old eN5 m2_3 g2
  have g3 := at_new eN5
  refine r_putF (fs' := [.ref b1, .ref b2, .int 0, .ref b3, .null, .null, .int 0, .int 0, .int 0, .null, .null]) cX inX7 tyX7 tyX7_ok nmX7 hw h0 rfl 3 (by decide) wF_X7_16 rfl hnm rfl rfl rfl rfl (Nat.le_of_ble_eq_true rfl) dX7_init_28 (fun H locs hw => ?_)
  obtain ⟨N6, eN6⟩ : ∃ X : HM, X = mu N5 a (.inr (7, [.ref b1, .ref b2, .int 0, .ref b3, .null, .null, .int 0, .int 0, .int 0, .null, .null])) := ⟨_, rfl⟩
  have hw := hw.to eN6.symm
  have k3 := k3.pt eN6
  have g1 := at_old eN6 m0_1.symm g1
  have g2 := at_old eN6 m0_2.symm g2
  have g3 := at_old eN6 m0_3.symm g3
  have h0 := at_new eN6
  refine lv_aload_n hx hb dX7_init_31 rfl (lv_at hl 0 rfl) ?_
  refine lv_iconst (v := 2) hx hb dX7_init_32 (by decide) ?_
  refine r_newa (atype := .boolean) (ty := .boolean) cX cX.2.2.2.2.2.2.2.2 rfl 1 rfl (fun C h => by cases h) rfl hw 2 (by decide) rfl (by decide) (by show 3 + 1 ≤ 7; omega) (by show 1683 + 2 ≤ 1925; omega) dX7_init_33 (fun b4 H hb4 hw => ?_)
  obtain ⟨N7, eN7⟩ : ∃ X : HM, X = mu N6 b4 (.inl (G.2 1, 2, .inl (fun _ => 0))) := ⟨_, rfl⟩
  have hw := hw.to eN7.symm
  refine W.widen (k := 4) (n := 1685) (by show 3 + 1 ≤ 4; omega) (by show 1683 + 2 ≤ 1685; omega) ?_
  have m0_4 := ne_some hb4 h0
  have m1_4 := ne_some hb4 g1
  have m2_4 := ne_some hb4 g2
  have m3_4 := ne_some hb4 g3
  have f4 : M b4 = none := k3.fr h0 hb4
  have k4 := k3.nw hb4 eN7
  have h0 := at_old eN7 m0_4 h0
  have g1 := at_old eN7 m1_4 g1
  have g2 := at_old eN7 m2_4 g2
  have g3 := at_old eN7 m3_4 g3
  have g4 := at_new eN7
  refine r_putF (fs' := [.ref b1, .ref b2, .int 0, .ref b3, .ref b4, .null, .int 0, .int 0, .int 0, .null, .null]) cX inX7 tyX7 tyX7_ok nmX7 hw h0 rfl 4 (by decide) wF_X7_19 rfl hnm rfl rfl rfl rfl (Nat.le_of_ble_eq_true rfl) dX7_init_35 (fun H locs hw => ?_)
  obtain ⟨N8, eN8⟩ : ∃ X : HM, X = mu N7 a (.inr (7, [.ref b1, .ref b2, .int 0, .ref b3, .ref b4, .null, .int 0, .int 0, .int 0, .null, .null])) := ⟨_, rfl⟩
  have hw := hw.to eN8.symm
  have k4 := k4.pt eN8
  have g1 := at_old eN8 m0_1.symm g1
  have g2 := at_old eN8 m0_2.symm g2
  have g3 := at_old eN8 m0_3.symm g3
  have g4 := at_old eN8 m0_4.symm g4
  have h0 := at_new eN8
  refine lv_aload_n hx hb dX7_init_38 rfl (lv_at hl 0 rfl) ?_
  refine lv_bipush (v := 120) hx hb dX7_init_39 (by decide) ?_
  refine r_newa (atype := .int) (ty := .int) cX cX.2.2.2.2.2.2.2.1 rfl 0 rfl (fun C h => by cases h) rfl hw 120 (by decide) rfl (by decide) (by show 4 + 1 ≤ 7; omega) (by show 1685 + 120 ≤ 1925; omega) dX7_init_41 (fun b5 H hb5 hw => ?_)
  obtain ⟨N9, eN9⟩ : ∃ X : HM, X = mu N8 b5 (.inl (G.2 0, 120, .inl (fun _ => 0))) := ⟨_, rfl⟩
  have hw := hw.to eN9.symm
  refine W.widen (k := 5) (n := 1805) (by show 4 + 1 ≤ 5; omega) (by show 1685 + 120 ≤ 1805; omega) ?_
  have m0_5 := ne_some hb5 h0
  have m1_5 := ne_some hb5 g1
  have m2_5 := ne_some hb5 g2
  have m3_5 := ne_some hb5 g3
  have m4_5 := ne_some hb5 g4
  have f5 : M b5 = none := k4.fr h0 hb5
  have k5 := k4.nw hb5 eN9
  have h0 := at_old eN9 m0_5 h0
  have g1 := at_old eN9 m1_5 g1
  have g2 := at_old eN9 m2_5 g2
  have g3 := at_old eN9 m3_5 g3
  have g4 := at_old eN9 m4_5 g4
  have g5 := at_new eN9
  refine r_putF (fs' := [.ref b1, .ref b2, .int 0, .ref b3, .ref b4, .ref b5, .int 0, .int 0, .int 0, .null, .null]) cX inX7 tyX7 tyX7_ok nmX7 hw h0 rfl 5 (by decide) wF_X7_23 rfl hnm rfl rfl rfl rfl (Nat.le_of_ble_eq_true rfl) dX7_init_43 (fun H locs hw => ?_)
  obtain ⟨N10, eN10⟩ : ∃ X : HM, X = mu N9 a (.inr (7, [.ref b1, .ref b2, .int 0, .ref b3, .ref b4, .ref b5, .int 0, .int 0, .int 0, .null, .null])) := ⟨_, rfl⟩
  have hw := hw.to eN10.symm
  have k5 := k5.pt eN10
  have g1 := at_old eN10 m0_1.symm g1
  have g2 := at_old eN10 m0_2.symm g2
  have g3 := at_old eN10 m0_3.symm g3
  have g4 := at_old eN10 m0_4.symm g4
  have g5 := at_old eN10 m0_5.symm g5
  have h0 := at_new eN10
  refine lv_aload_n hx hb dX7_init_46 rfl (lv_at hl 0 rfl) ?_
  refine lv_bipush (v := 60) hx hb dX7_init_47 (by decide) ?_
  refine r_newa (atype := .int) (ty := .int) cX cX.2.2.2.2.2.2.2.1 rfl 0 rfl (fun C h => by cases h) rfl hw 60 (by decide) rfl (by decide) (by show 5 + 1 ≤ 7; omega) (by show 1805 + 60 ≤ 1925; omega) dX7_init_49 (fun b6 H hb6 hw => ?_)
  obtain ⟨N11, eN11⟩ : ∃ X : HM, X = mu N10 b6 (.inl (G.2 0, 60, .inl (fun _ => 0))) := ⟨_, rfl⟩
  have hw := hw.to eN11.symm
  refine W.widen (k := 6) (n := 1865) (by show 5 + 1 ≤ 6; omega) (by show 1805 + 60 ≤ 1865; omega) ?_
  have m0_6 := ne_some hb6 h0
  have m1_6 := ne_some hb6 g1
  have m2_6 := ne_some hb6 g2
  have m3_6 := ne_some hb6 g3
  have m4_6 := ne_some hb6 g4
  have m5_6 := ne_some hb6 g5
  have f6 : M b6 = none := k5.fr h0 hb6
  have k6 := k5.nw hb6 eN11
  have h0 := at_old eN11 m0_6 h0
  have g1 := at_old eN11 m1_6 g1
  have g2 := at_old eN11 m2_6 g2
  have g3 := at_old eN11 m3_6 g3
  have g4 := at_old eN11 m4_6 g4
  have g5 := at_old eN11 m5_6 g5
  have g6 := at_new eN11
  refine r_putF (fs' := [.ref b1, .ref b2, .int 0, .ref b3, .ref b4, .ref b5, .int 0, .int 0, .int 0, .ref b6, .null]) cX inX7 tyX7 tyX7_ok nmX7 hw h0 rfl 9 (by decide) wF_X7_26 rfl hnm rfl rfl rfl rfl (Nat.le_of_ble_eq_true rfl) dX7_init_51 (fun H locs hw => ?_)
  obtain ⟨N12, eN12⟩ : ∃ X : HM, X = mu N11 a (.inr (7, [.ref b1, .ref b2, .int 0, .ref b3, .ref b4, .ref b5, .int 0, .int 0, .int 0, .ref b6, .null])) := ⟨_, rfl⟩
  have hw := hw.to eN12.symm
  have k6 := k6.pt eN12
  have g1 := at_old eN12 m0_1.symm g1
  have g2 := at_old eN12 m0_2.symm g2
  have g3 := at_old eN12 m0_3.symm g3
  have g4 := at_old eN12 m0_4.symm g4
  have g5 := at_old eN12 m0_5.symm g5
  have g6 := at_old eN12 m0_6.symm g6
  have h0 := at_new eN12
  refine lv_aload_n hx hb dX7_init_54 rfl (lv_at hl 0 rfl) ?_
  refine lv_bipush (v := 60) hx hb dX7_init_55 (by decide) ?_
  refine r_newa (atype := .int) (ty := .int) cX cX.2.2.2.2.2.2.2.1 rfl 0 rfl (fun C h => by cases h) rfl hw 60 (by decide) rfl (by decide) (by show 6 + 1 ≤ 7; omega) (by show 1865 + 60 ≤ 1925; omega) dX7_init_57 (fun b7 H hb7 hw => ?_)
  obtain ⟨N13, eN13⟩ : ∃ X : HM, X = mu N12 b7 (.inl (G.2 0, 60, .inl (fun _ => 0))) := ⟨_, rfl⟩
  have hw := hw.to eN13.symm
  refine W.widen (k := 7) (n := 1925) (by show 6 + 1 ≤ 7; omega) (by show 1865 + 60 ≤ 1925; omega) ?_
  have m0_7 := ne_some hb7 h0
  have m1_7 := ne_some hb7 g1
  have m2_7 := ne_some hb7 g2
  have m3_7 := ne_some hb7 g3
  have m4_7 := ne_some hb7 g4
  have m5_7 := ne_some hb7 g5
  have m6_7 := ne_some hb7 g6
  have f7 : M b7 = none := k6.fr h0 hb7
  have k7 := k6.nw hb7 eN13
  have h0 := at_old eN13 m0_7 h0
  have g1 := at_old eN13 m1_7 g1
  have g2 := at_old eN13 m2_7 g2
  have g3 := at_old eN13 m3_7 g3
  have g4 := at_old eN13 m4_7 g4
  have g5 := at_old eN13 m5_7 g5
  have g6 := at_old eN13 m6_7 g6
  have g7 := at_new eN13
  refine r_putF (fs' := [.ref b1, .ref b2, .int 0, .ref b3, .ref b4, .ref b5, .int 0, .int 0, .int 0, .ref b6, .ref b7]) cX inX7 tyX7 tyX7_ok nmX7 hw h0 rfl 10 (by decide) wF_X7_29 rfl hnm rfl rfl rfl rfl (Nat.le_of_ble_eq_true rfl) dX7_init_59 (fun H locs hw => ?_)
  obtain ⟨N14, eN14⟩ : ∃ X : HM, X = mu N13 a (.inr (7, [.ref b1, .ref b2, .int 0, .ref b3, .ref b4, .ref b5, .int 0, .int 0, .int 0, .ref b6, .ref b7])) := ⟨_, rfl⟩
  have hw := hw.to eN14.symm
  have k7 := k7.pt eN14
  have g1 := at_old eN14 m0_1.symm g1
  have g2 := at_old eN14 m0_2.symm g2
  have g3 := at_old eN14 m0_3.symm g3
  have g4 := at_old eN14 m0_4.symm g4
  have g5 := at_old eN14 m0_5.symm g5
  have g6 := at_old eN14 m0_6.symm g6
  have g7 := at_old eN14 m0_7.symm g7
  have h0 := at_new eN14
  refine lv_aload_n hx hb dX7_init_62 rfl (lv_at hl 0 rfl) ?_
  refine lv_iconst (v := 4) hx hb dX7_init_63 (by decide) ?_
  refine lv_bipush (v := 8) hx hb dX7_init_64 (by decide) ?_
  have hI : Inj (fun j => match j with | 0 => a | 1 => b1 | 2 => b2 | 3 => b3 | 4 => b4 | 5 => b5 | 6 => b6 | _ => b7) 8 := by
    intro i j hi hj z
    rcases (show i = 0 ∨ i = 1 ∨ i = 2 ∨ i = 3 ∨ i = 4 ∨ i = 5 ∨ i = 6 ∨ i = 7 by omega) with rfl | rfl | rfl | rfl | rfl | rfl | rfl | rfl <;> rcases (show j = 0 ∨ j = 1 ∨ j = 2 ∨ j = 3 ∨ j = 4 ∨ j = 5 ∨ j = 6 ∨ j = 7 by omega) with rfl | rfl | rfl | rfl | rfl | rfl | rfl | rfl <;> first | rfl | exact absurd z m0_1 | exact absurd z.symm m0_1 | exact absurd z m0_2 | exact absurd z.symm m0_2 | exact absurd z m1_2 | exact absurd z.symm m1_2 | exact absurd z m0_3 | exact absurd z.symm m0_3 | exact absurd z m1_3 | exact absurd z.symm m1_3 | exact absurd z m2_3 | exact absurd z.symm m2_3 | exact absurd z m0_4 | exact absurd z.symm m0_4 | exact absurd z m1_4 | exact absurd z.symm m1_4 | exact absurd z m2_4 | exact absurd z.symm m2_4 | exact absurd z m3_4 | exact absurd z.symm m3_4 | exact absurd z m0_5 | exact absurd z.symm m0_5 | exact absurd z m1_5 | exact absurd z.symm m1_5 | exact absurd z m2_5 | exact absurd z.symm m2_5 | exact absurd z m3_5 | exact absurd z.symm m3_5 | exact absurd z m4_5 | exact absurd z.symm m4_5 | exact absurd z m0_6 | exact absurd z.symm m0_6 | exact absurd z m1_6 | exact absurd z.symm m1_6 | exact absurd z m2_6 | exact absurd z.symm m2_6 | exact absurd z m3_6 | exact absurd z.symm m3_6 | exact absurd z m4_6 | exact absurd z.symm m4_6 | exact absurd z m5_6 | exact absurd z.symm m5_6 | exact absurd z m0_7 | exact absurd z.symm m0_7 | exact absurd z m1_7 | exact absurd z.symm m1_7 | exact absurd z m2_7 | exact absurd z.symm m2_7 | exact absurd z m3_7 | exact absurd z.symm m3_7 | exact absurd z m4_7 | exact absurd z.symm m4_7 | exact absurd z m5_7 | exact absurd z.symm m5_7 | exact absurd z m6_7 | exact absurd z.symm m6_7
  have hR : IsRf G N14 (fun j => match j with | 0 => a | 1 => b1 | 2 => b2 | 3 => b3 | 4 => b4 | 5 => b5 | 6 => b6 | _ => b7) (fun _ => 0) (fun _ => 0) (fun _ => 0) (fun _ => 0) (fun _ => 0) (fun _ => 0) (fun _ => 0) 0 0 0 0 := ⟨h0, g1, g2, g3, g4, g5, g6, g7, hI⟩
  have hfr : ∀ i, 1 ≤ i → i < 8 → M ((fun j => match j with | 0 => a | 1 => b1 | 2 => b2 | 3 => b3 | 4 => b4 | 5 => b5 | 6 => b6 | _ => b7 : Nat → Nat) i) = none := by
    intro i h1 h8
    rcases (show i = 1 ∨ i = 2 ∨ i = 3 ∨ i = 4 ∨ i = 5 ∨ i = 6 ∨ i = 7 by omega) with rfl | rfl | rfl | rfl | rfl | rfl | rfl
    · exact f1
    · exact f2
    · exact f3
    · exact f4
    · exact f5
    · exact f6
    · exact f7
  generalize hbb : (fun j => match j with | 0 => a | 1 => b1 | 2 => b2 | 3 => b3 | 4 => b4 | 5 => b5 | 6 => b6 | _ => b7 : Nat → Nat) = b at hR hfr
  have hba : b 0 = a := (congrFun hbb 0).symm
  have hc := c_X7_makeNew l G hR 4 8
  rw [hba] at hc
  have hR1 := hR.1
  rw [hba] at hR1
  refine r_Vv cX hw hR1 rfl [.int 4, .int 8] (hc) wM_X7_32 mw_X7_makeNew ⟨Nat.le_of_ble_eq_true rfl, Nat.le_of_ble_eq_true rfl⟩ rfl rfl hl.1 (Nat.le_of_ble_eq_true rfl) dX7_init_66 ⟨by show 7 + 0 ≤ 7; omega, by show 1925 + 0 ≤ 1925; omega⟩ (fun M1 H locs hp hw => ?_)
  refine W.widen (k := 7) (n := 1925) (by show 7 + 0 ≤ 7; omega) (by show 1925 + 0 ≤ 1925; omega) ?_
  have hk8 : Kp M M1 a := fun q e hq he => by
    rw [hp.2 q (fun i hi z => ?_)]
    · exact k7 q e hq he
    · by_cases c : i = 0
      · rw [c, hba] at z
        exact hq z
      · rw [z, hfr i (by omega) hi] at he
        cases he
  exact r_vret cX hr hlocks hw ⟨b, hba, hp.1, hfr, hk8⟩ dX7_init_69
