/-! The bounds stay through every move. -/
theorem Inv.ch {B : Nat} {f g : Nat → Int32} (h : Inv B f) (e : ∀ k, k = 0 ∨ k = 1 ∨ k = 2 ∨ k = 3 ∨ k = 7 ∨ k = 8 ∨ (13 ≤ k ∧ k < 17) ∨ (25 ≤ k ∧ k < 29) ∨ (41 ≤ k ∧ k < 57) ∨ (65 ≤ k ∧ k < 73) → g k = f k) : Inv B g := h.of (by rw [e 0 (by omega)]; exact h.1) (fun k hk => e k (by omega))
theorem Inv.bsy {B b j : Nat} {f : Nat → Int32} (h : Inv B f) (hj : j < 4) (hb : b ≤ 1001200) : Inv B (upd f (25 + j) (nI b)) := by
  obtain ⟨h0, h1, h2, h3, h7, h8, hr, hbb, he⟩ := h
  have o : ∀ q, q ≠ 25 + j → upd f (25 + j) (nI b) q = f q := fun q a => pk_un a
  refine ⟨?_, ?_, ?_, ?_, ?_, ?_, fun i hi => ?_, fun i hi => ?_, fun i hi => ?_⟩
  · rw [o 0 (by omega)]; exact h0
  · rw [o 1 (by omega)]; exact h1
  · rw [o 2 (by omega)]; exact h2
  · rw [o 3 (by omega)]; exact h3
  · rw [o 7 (by omega)]; exact h7
  · rw [o 8 (by omega)]; exact h8
  · rw [o (13 + i) (by omega)]; exact hr i hi
  · by_cases q : i = j
    · subst q
      exact ⟨b, hb, pk_us⟩
    · rw [o (25 + i) (by omega)]; exact hbb i hi
  · exact (he i hi).ext (o _ (by omega)) (o _ (by omega)) (o _ (by omega)) (o _ (by omega))
theorem Inv.rat {B r j : Nat} {f : Nat → Int32} (h : Inv B f) (hj : j < 4) (h1r : 1 ≤ r) (h2r : r ≤ 100) : Inv B (upd f (13 + j) (nI r)) := by
  obtain ⟨h0, h1, h2, h3, h7, h8, hr, hbb, he⟩ := h
  have o : ∀ q, q ≠ 13 + j → upd f (13 + j) (nI r) q = f q := fun q a => pk_un a
  refine ⟨?_, ?_, ?_, ?_, ?_, ?_, fun i hi => ?_, fun i hi => ?_, fun i hi => ?_⟩
  · rw [o 0 (by omega)]; exact h0
  · rw [o 1 (by omega)]; exact h1
  · rw [o 2 (by omega)]; exact h2
  · rw [o 3 (by omega)]; exact h3
  · rw [o 7 (by omega)]; exact h7
  · rw [o 8 (by omega)]; exact h8
  · by_cases q : i = j
    · subst q
      exact ⟨r, h1r, h2r, pk_us⟩
    · rw [o (13 + i) (by omega)]; exact hr i hi
  · rw [o (25 + i) (by omega)]; exact hbb i hi
  · exact (he i hi).ext (o _ (by omega)) (o _ (by omega)) (o _ (by omega)) (o _ (by omega))
theorem Inv.gap {B g : Nat} {f : Nat → Int32} (h : Inv B f) (h1g : 1 ≤ g) (h2g : g ≤ 200) : Inv B (upd f 3 (nI g)) := by
  obtain ⟨h0, h1, h2, h3, h7, h8, hr, hbb, he⟩ := h
  have o : ∀ q, q ≠ 3 → upd f 3 (nI g) q = f q := fun q a => pk_un a
  refine ⟨?_, ?_, ?_, ⟨g, h1g, h2g, pk_us⟩, ?_, ?_, fun i hi => ?_, fun i hi => ?_, fun i hi => ?_⟩
  · rw [o 0 (by omega)]; exact h0
  · rw [o 1 (by omega)]; exact h1
  · rw [o 2 (by omega)]; exact h2
  · rw [o 7 (by omega)]; exact h7
  · rw [o 8 (by omega)]; exact h8
  · rw [o (13 + i) (by omega)]; exact hr i hi
  · rw [o (25 + i) (by omega)]; exact hbb i hi
  · exact (he i hi).ext (o _ (by omega)) (o _ (by omega)) (o _ (by omega)) (o _ (by omega))
theorem Inv.gen {B g : Nat} {f : Nat → Int32} (h : Inv B f) (hg : g < 2 ^ 31) : Inv B (upd f 7 (nI g)) := by
  obtain ⟨h0, h1, h2, h3, h7, h8, hr, hbb, he⟩ := h
  have o : ∀ q, q ≠ 7 → upd f 7 (nI g) q = f q := fun q a => pk_un a
  refine ⟨?_, ?_, ?_, ?_, ⟨g, hg, pk_us⟩, ?_, fun i hi => ?_, fun i hi => ?_, fun i hi => ?_⟩
  · rw [o 0 (by omega)]; exact h0
  · rw [o 1 (by omega)]; exact h1
  · rw [o 2 (by omega)]; exact h2
  · rw [o 3 (by omega)]; exact h3
  · rw [o 8 (by omega)]; exact h8
  · rw [o (13 + i) (by omega)]; exact hr i hi
  · rw [o (25 + i) (by omega)]; exact hbb i hi
  · exact (he i hi).ext (o _ (by omega)) (o _ (by omega)) (o _ (by omega)) (o _ (by omega))
theorem lit_in {x : Int32} (lo hi : Nat) (hlo : lo < 2 ^ 31) (hhi : hi < 2 ^ 31) (h : nI lo ≤ x ∧ x ≤ nI hi) : ∃ k, lo ≤ k ∧ k ≤ hi ∧ x = nI k ∧ x.toNatClampNeg = k := by
  have hx0 : ¬ x < 0 := fun q => absurd (Int32.lt_of_le_of_lt h.1 q) (nI_nlt (b := 0) (Nat.zero_le _) hlo)
  obtain ⟨j, h3, h4⟩ := nI_of hx0
  have h1 := h.1
  have h2 := h.2
  rw [h4, nI_leI hlo h3] at h1
  rw [h4, nI_leI h3 hhi] at h2
  exact ⟨j, h1, h2, h4, by rw [h4]; exact nI_clamp h3⟩
theorem tk_N {s r : Nat} (hs : 1 ≤ s) (hs2 : s ≤ 1000) (hr : 1 ≤ r) (hr2 : r ≤ 100) : ∃ t, t ≤ 1000 ∧ tk (nI s) (nI r) = nI t := by
  refine ⟨(s + r - 1) / r, ?_, ?_⟩
  · refine Nat.le_trans (Nat.div_le_of_le_mul ?_) hs2
    obtain ⟨a, rfl⟩ : ∃ a, s = a + 1 := ⟨s - 1, by omega⟩
    obtain ⟨b, rfl⟩ : ∃ b, r = b + 1 := ⟨r - 1, by omega⟩
    rw [Nat.mul_add, Nat.add_mul]
    have := Nat.zero_le (b * a)
    omega
  · unfold tk
    rw [nI_add, show (1 : Int32) = nI 1 from rfl, pk_sub (by omega), pk_div (by omega) (by omega) (by omega)]
theorem Inv.tr {B k j s : Nat} {f : Nat → Int32} (h : Inv B f) (hk : k < 16) (hj : j < 4) (hs : 1 ≤ s) (hs2 : s ≤ 1000) : Inv B (trF f k (nI j) (nI s)).2 := by
  unfold trF
  rw [nI_clamp (show j < 2 ^ 31 by omega)]
  split
  · exact h.ch (fun q hq => pk_un (by omega))
  · rename_i hno
    obtain ⟨T, T1, T2⟩ := h.1
    obtain ⟨b, b1, b2⟩ := h.2.2.2.2.2.2.2.1 j hj
    obtain ⟨r, r1, r2, r3⟩ := h.2.2.2.2.2.2.1 j hj
    obtain ⟨t, t1, t2⟩ := tk_N hs hs2 r1 r2
    have hb : b ≤ T + 200 := by
      rcases Nat.lt_or_ge (T + 200) b with q | q
      · exfalso
        apply hno
        rw [b2, T2, pk_sub (by omega)]
        exact nI_lt (a := 200) (by omega) (by omega)
      · exact q
    have hen : ∃ e, e ≤ 1001200 ∧ enF f j (nI s) = nI e := by
      unfold enF bg
      rw [b2, T2, r3, t2]
      split
      · exact ⟨b + t, by omega, nI_add _ _⟩
      · exact ⟨T + t, by omega, nI_add _ _⟩
    obtain ⟨e, e1, e2⟩ := hen
    rw [e2]
    refine (h.bsy hj e1).ch (fun q hq => ?_)
    show dvF _ _ _ _ q = _
    rw [dvF_o _ _ _ _ _ hk (by omega)]
    unfold xmF
    rw [pk_un (by omega), pk_un (by omega), pk_un (by omega)]
theorem Inv.sd {B k s : Nat} {f : Nat → Int32} (h : Inv B f) (hB : B < 2 ^ 30) (hk : k < 16) (hs : 1 ≤ s) (hs2 : s ≤ 1000) : Inv (B + 1) (sdF f k (nI s)).2 := by
  obtain ⟨j, hj, hc⟩ := chF_N h hB k hk
  have := h.P
  unfold sdF
  rw [hc]
  exact (h.chosen k hk hj).tr hk (by omega) hs hs2
theorem Inv.xI {B : Nat} {f : Nat → Int32} (h : Inv B f) (hB : B < 2 ^ 30) (o : Option (Option Int32 × Int32)) : Inv (B + 1) (exI f o).2 := by
  unfold exI
  split
  · exact h.mono (by omega)
  · split
    · rename_i q
      obtain ⟨k, -, k1, rfl, k2⟩ := lit_in 0 15 (by decide) (by decide) q.1
      obtain ⟨s, s1, s2, rfl, -⟩ := lit_in 1 1000 (by decide) (by decide) q.2
      rw [k2]
      exact h.sd hB (by omega) s1 s2
    · exact h.mono (by omega)
  · split
    · rename_i q
      obtain ⟨T, T1, T2⟩ := h.1
      obtain ⟨k, k1, rfl, k2, k3⟩ := adv_ix T1 T2 q.1 q.2
      rw [k2]
      exact ((h.ps T2 k3 k (Nat.le_refl _)).1).mono (by omega)
    · exact h.mono (by omega)
theorem Inv.xS {B : Nat} {f T : Nat → Int32} {n : Nat} (h : Inv B f) (k : Nat) (hB : B + k ≤ 2 ^ 30) : Inv (B + k) (exS T n f k).2 := by
  induction k with
  | zero => exact h
  | succ k ih => exact (ih (by omega)).xI (by omega) _
theorem Inv.ini {p e : Nat} (hp : 2 ≤ p) (hp2 : p ≤ 4) (he : 1 ≤ e) (he2 : e ≤ 8) (B : Nat) : Inv B (iniF (nI p) (nI e)) := by
  refine ⟨⟨0, by omega, rfl⟩, ⟨p, hp, hp2, rfl⟩, ⟨e, he, he2, rfl⟩, ⟨20, by omega, by omega, rfl⟩, ⟨1, by omega, rfl⟩, ⟨0, by omega, rfl⟩, fun i hi => ⟨10, by omega, by omega, ?_⟩, fun i hi => ⟨0, by omega, ?_⟩, fun i hi => ?_⟩
  · exact ini_10 _ _ _ (by omega)
  · unfold iniF
    rw [if_neg (by omega), if_neg (by omega), if_neg (by omega), if_neg (by omega), if_neg (by omega), if_neg (by omega), if_neg (by omega), if_neg (by omega)]
    rfl
  · have e0 : ∀ q, (41 ≤ q ∧ q < 49) ∨ (65 ≤ q ∧ q < 73) → iniF (nI p) (nI e) q = 0 := by
      intro q hq
      unfold iniF
      rw [if_neg (by omega), if_neg (by omega), if_neg (by omega), if_neg (by omega), if_neg (by omega), if_neg (by omega), if_neg (by omega), if_neg (by omega)]
    refine ⟨Or.inl (e0 _ (by omega)), fun q => ?_, Or.inl (ini_9 _ _ _ (by omega)), Or.inl (e0 _ (by omega))⟩
    rw [e0 _ (by omega)] at q
    exact absurd q (by decide)
